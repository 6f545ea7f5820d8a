/-! what is known of texts and of throwing; the rows of SpX -/
def ztx (i : Nat) : String := (["no such argument", "floors man card piano", "praise true vanity weight pride heard rides floor man least most", "enter leave say insult go walk night again", "no such man or card", "floors", "man", "card", "piano", "least", "most", "praise", "true", "vanity", "weight", "pride", "heard", "rides", "floor", "enter", "leave", "say", "insult", "go", "walk", "night", "again"] : List String).getD i ""
/-- the String constants as they lie in the old heap -/
def zS (E : EE) (aV : Nat → Nat) (U : State) (H : Heap) : Prop := ∀ i : Nat, i < 27 → va_O "java/lang/String" (eA E i) (frz E) U H ∧ va_OF "java/lang/String" "coder" "B" (.int 0) (eA E i) (frz E) U H ∧ va_OF "java/lang/String" "value" "[B" (.ref (aV i)) (eA E i) (frz E) U H ∧ va_T .byte (aV i) (slen i) (fun j => .int (sbyt i j)) (frz E) U H
theorem zS_moved {E : EE} {aV : Nat → Nat} {u U : State} {H : Heap} (hvm : u.vm.Alike U.vm) (h : zS E aV u H) : zS E aV U H := fun i hi => ⟨va_O.moved hvm (h i hi).1, va_OF.moved hvm (h i hi).2.1, va_OF.moved hvm (h i hi).2.2.1, va_T.moved hvm (h i hi).2.2.2⟩
/-- a static field of Throwable that holds a reference: where it lies in the old heap -/
def tS (E : EE) (n d : String) (U : State) (H : Heap) : Prop := ∃ (c : ClassId) (k : Class) (i : Nat) (f : Field) (a : Nat) (cell : Cell) (v : RefV), (U.vm.findClass Bundle.tN = some c ∧ U.fieldFound? Bundle.tN n d = some (c, k, i, f)) ∧ (f.isStatic = true ∧ k.statics = some a ∧ k.staticTypes[f.slot]? = some f.type) ∧ (H[a]? = some cell ∧ cell.vm.isStatics = true ∧ cell.cls = c ∧ cell.slots[f.slot]? = some v.v) ∧ ¬ frz E a
theorem tS_of {E : EE} {n d : String} {args : Array Value} {U : State} (h1 : (Cond.laysStatic Bundle.tN n d).before args U = true) (h2 : (Cond.isRef (.static Bundle.tN n d)).before args U = true) (hA : ∀ a : Nat, a < U.heap.size → ¬ frz E a) : tS E n d U U.heap := by
  obtain ⟨c, k, i, f, a, cell, q1, q2, q3, q4, q5, q6, q7, -, q9⟩ := Cond.laysStatic_spec h1
  obtain ⟨v, hv⟩ := Cond.staticRefV q2 q3 q4 q5 q6 h2
  exact ⟨c, k, i, f, a, cell, v, ⟨q1, q2⟩, ⟨q3, q4, q9⟩, ⟨q5, q6, q7, hv⟩, hA a (Array.getElem?_eq_some_iff.mp q5).1⟩
theorem tS_moved {E : EE} {n d : String} {u U : State} {H : Heap} (hv : u.vm.Alike U.vm) (h : tS E n d u H) : tS E n d U H := by
  obtain ⟨c, k, i, f, a, cell, v, ⟨q1, q2⟩, ⟨q3, q4, q9⟩, q5, q6⟩ := h
  obtain ⟨k', z1, z2⟩ := State.fieldFound?_setVm hv q2
  exact ⟨c, k', i, f, a, cell, v, ⟨by rw [hv.findClass]; exact q1, z1⟩, ⟨q3, by rw [z2]; exact q4, by rw [z2]; exact q9⟩, q5, q6⟩
/-- its two words, at a state whose heap is the old one there -/
theorem tS_words {E : EE} {n d : String} {args : Array Value} {U : State} {H : Heap} (h : tS E n d U H) (hk : ∀ a : Nat, ¬ frz E a → U.heap[a]? = H[a]?) : (Cond.laysStatic Bundle.tN n d).before args U = true ∧ (Cond.isRef (.static Bundle.tN n d)).before args U = true := by
  obtain ⟨c, k, i, f, a, cell, w, ⟨q1, q2⟩, ⟨q3, q4, q9⟩, ⟨q5, q6, q7, q8⟩, q10⟩ := h
  have ok := w.ok
  generalize w.v = v at q8 ok
  rw [← hk a q10] at q5
  have lt := (Array.getElem?_eq_some_iff.mp q8).1
  refine ⟨?_, ?_⟩
  · simp [Cond.before, Cond.holds, Cond.value, q1, q2, q3, q4, q5, q6, q7, q9, lt]
  · cases v <;> cases ok <;> simp [Cond.before, Cond.holds, Cond.value, Term.eval, State.fieldNamed?, q2, q3, q4, q5, q6, q8]
def KX (E : EE) (U : State) : Prop := (∀ o idx i, sl o idx = some i → vk_R (zC o) idx (ztx i) (eA E i) U) ∧
  (va_Nw (.castable (xNm 0) (xNm 0)) U ∧ va_Nw (.castable (xNm 1) (xNm 1)) U ∧ va_Nc (xNm 0) (xNm 1) U ∧ va_Nc (xNm 1) (xNm 0) U) ∧
  (va_Nw (.declares (Bundle.initS "java/lang/RuntimeException")) U ∧ va_Nw (.declares (Bundle.initS "java/lang/Exception")) U ∧ va_Nw (.declares (Bundle.initS Bundle.tN)) U) ∧
  (tS E "UNASSIGNED_STACK" Bundle.steD U (eH E) ∧ tS E "SUPPRESSED_SENTINEL" Bundle.listD U (eH E)) ∧
  (∃ aV : Nat → Nat, zS E aV U (eH E)) ∧
  va_Z "java/lang/String" "COMPACT_STRINGS" "Z" (.int 1) (frz E) U (eH E) ∧ va_Zq "jdk/internal/util/Preconditions" "SIOOBE_FORMATTER" "Ljava/util/function/BiFunction;" (frz E) U (eH E)
theorem kw_KX (E : EE) : Kw (KX E) := by
  intro s U hW h
  obtain ⟨h1, ⟨a1, a2, a3, a4⟩, ⟨b1, b2, b3⟩, ⟨c1, c2⟩, ⟨aV, d1⟩, e1, e2⟩ := h
  exact ⟨fun o idx i hi => (h1 o idx i hi).warm hW, ⟨va_Nw.warmC hW a1, va_Nw.warmC hW a2, va_Nc.moved hW.alike a3, va_Nc.moved hW.alike a4⟩, ⟨va_Nw.warmD hW b1, va_Nw.warmD hW b2, va_Nw.warmD hW b3⟩, ⟨tS_moved hW.alike c1, tS_moved hW.alike c2⟩, ⟨aV, zS_moved hW.alike d1⟩, va_Z.moved hW.alike e1, va_Zq.moved hW.alike e2⟩
theorem xk_13 {i x : Nat} (h : xk 13 i = some x) : (i = 13 ∧ x = 1) ∨ (i = 31 ∧ x = 0) := by
  have hm := look_mem h
  simp only [xkL, List.mem_cons, Prod.mk.injEq, List.not_mem_nil, or_false] at hm
  omega
theorem xk_link {i x : Nat} (h : xk 13 i = some x) : Cond.classLink (zC 13) i (xNm x) ∈ gt := by
  rcases xk_13 h with ⟨rfl, rfl⟩ | ⟨rfl, rfl⟩
  · exact (mt3 67 rfl rfl)
  · exact (mt5 42 rfl rfl)

section SpXC
variable {p : Program} {l : Launch} {e : Env} {R : Room} {s : State} {m : MethodId} {args : Array Value} {below : List Frame} {meth : Method} {c : Code} {Q : State → Prop}
variable {E : EE} {mm : MM} {d : Nat} {σ0 : HP}
/-- the rows of a wrapper's table name the two exceptions: the search ends at the first that covers pc and names x -/
theorem hunt_rows {pc x qa : Nat} {ce : Cell} {g : JFrame} (hpl : e.platform.magicAccessors = ({} : Platform).magicAccessors) (hts : ∀ w ∈ gt, w.before args s = true) (hK : KX E s) (hown : s.vm.findClass (zC 13) = some g.method.cls) (hpc : g.pc = pc) (hvm : ce.vm = .none) (hcl : s.vm.findClass (xNm x) = some ce.cls) :
    ∀ t : List (Nat × Nat × Nat × Nat), t.all (fun q => (xk 13 q.2.2.2).isSome) = true → ∀ r, t.find? (fun q => decide (q.1 ≤ pc ∧ pc < q.2.1 ∧ xk 13 q.2.2.2 = some x)) = some r → hunt e s g qa ce r.2.2.1 (tableOf t) := by
  intro t
  induction t with
  | nil => intro _ r h; cases h
  | cons q t ih =>
    intro hall r hr
    rw [List.all_cons, Bool.and_eq_true] at hall
    show hunt e s g qa ce r.2.2.1 (⟨q.1, q.2.1, q.2.2.1, q.2.2.2⟩ :: tableOf t)
    obtain ⟨y, hy⟩ := Option.isSome_iff_exists.mp hall.1
    have h0 : q.2.2.2 ≠ 0 := by rcases xk_13 hy with ⟨z, -⟩ | ⟨z, -⟩ <;> omega
    obtain ⟨kc, hkc, -⟩ := Vm.findClass_spec hcl
    have hob : ∀ j, ce.vm ≠ .statics j := fun j h => by rw [hvm] at h; cases h
    obtain ⟨c5, hc5, hl5⟩ := Cond.classLink_spec hown (hts _ (xk_link hy)) e.platform hpl
    by_cases hcov : q.1 ≤ pc ∧ pc < q.2.1
    · have cov : covers (⟨q.1, q.2.1, q.2.2.1, q.2.2.2⟩ : ExceptionTableEntry) g.pc = true := by rw [hpc]; show (decide (q.1 ≤ pc) && decide (pc < q.2.1)) = true; simp [hcov]
      by_cases hxy : y = x
      · subst hxy
        rw [List.find?_cons, decide_eq_true ⟨hcov.1, hcov.2, hy⟩] at hr
        cases hr
        have hcast : (Cond.castable (xNm y) (xNm y)).before args s = true := by
          rcases xk_13 hy with ⟨-, rfl⟩ | ⟨-, rfl⟩
          · exact va_Nw.use rfl hK.2.1.2.1
          · exact va_Nw.use rfl hK.2.1.1
        obtain ⟨c3, c4, z3, z4, z5⟩ := Cond.castable_spec hcast
        cases Option.some.inj (z3.symm.trans hcl)
        cases Option.some.inj (z4.symm.trans hc5)
        exact hunt_ask cov h0 hl5 hob hkc (Or.inl ⟨z5, rfl⟩)
      · rw [List.find?_cons, decide_eq_false (fun z => hxy (Option.some.inj (hy.symm.trans z.2.2)))] at hr
        have hr : t.find? (fun q => decide (q.1 ≤ pc ∧ pc < q.2.1 ∧ xk 13 q.2.2.2 = some x)) = some r := hr
        have hx01 : x = 0 ∨ x = 1 := by
          have z := List.find?_some hr
          simp only [decide_eq_true_eq] at z
          have := z.2.2
          rcases xk_13 this with ⟨-, z⟩ | ⟨-, z⟩ <;> omega
        have hno : va_Nc (xNm x) (xNm y) s := by
          rcases xk_13 hy with ⟨-, rfl⟩ | ⟨-, rfl⟩ <;> rcases hx01 with rfl | rfl
          · exact hK.2.1.2.2.1
          · exact absurd rfl hxy
          · exact absurd rfl hxy
          · exact hK.2.1.2.2.2
        obtain ⟨c6, c7, n1, n2, n3⟩ := hno
        cases Option.some.inj (n1.symm.trans hcl)
        cases Option.some.inj (n2.symm.trans hc5)
        exact hunt_ask cov h0 hl5 hob hkc (Or.inr ⟨n3, ih hall.2 r hr⟩)
    · rw [List.find?_cons, decide_eq_false (fun z => hcov ⟨z.1, z.2.1⟩)] at hr
      refine hunt_skip ?_ (ih hall.2 r hr)
      rw [hpc]
      show (decide (q.1 ≤ pc) && decide (pc < q.2.1)) = false
      by_cases z1 : q.1 ≤ pc
      · have z2 : ¬ pc < q.2.1 := fun z2 => hcov ⟨z1, z2⟩
        simp [z2]
      · simp [z1]
theorem x_catch (A : Act E (KX E) p R s m args meth c mm d) {pc x q kk : Nat} {L : LV} {σ : HP} {ls : Array Slot} {H : Heap} {locs : List Loc} {cells slots qa : Nat} {ce : Cell} {rest : List Value} (hh : hnd mm pc x = some (q, kk)) (h13 : zo mm = 13) (hkk : kk < L.length) (hok : okS (zs mm) kk = true) (hwf : wfL (zs mm) L σ) (h1 : LH E ls L) (hcell : H[qa]? = some ce) (hvm : ce.vm = .none) (hcl : s.vm.findClass (xNm x) = some ce.cls)
    (k : ∀ ls' : Array Slot, LH E ls' (L.set kk none) → W p l e R s m args below meth c H locs cells slots Q (F0 m q ls' [])) : WT p l e R s m args below meth c H locs cells slots Q (F0 m pc ls rest) qa := by
  have hts := A.2.2.2.2.2.1
  have hown := A.2.2.2.2.1
  have hKX : KX E s := A.2.2.2.2.2.2.2.2.2.1.2.2.2.2.2.2.2
  unfold hnd at hh
  rw [h13] at hown hh
  split at hh
  · cases hh
  · next hall =>
    have hall : (zh mm).all (fun q => (xk 13 q.2.2.2).isSome) = true := by rw [← Bool.not_eq_false]; exact hall
    split at hh
    · next r hr =>
      intro T hT X
      have hpl : e.platform.magicAccessors = ({} : Platform).magicAccessors := by rw [X.admits.platform]
      have hu := hunt_rows (qa := qa) (g := F0 m pc ls rest) hpl hts hKX hown rfl hvm hcl (zh mm) hall r hr
      rw [← A.2.2.2.2.2.2.2.2.1] at hu
      obtain ⟨v, X', st⟩ := caught X (g := F0 m pc ls rest) rfl (by rw [hT]; exact hcell) hu
      have fin : W p l e R s m args below meth c H locs cells slots Q (F0 m r.2.2.1 ls [.ref qa]) := by
        split at hh
        · next k9 hd =>
          cases hh
          refine lv_astore_n A.1 A.2.1 hd rfl h1 hkk rfl (fun ls' hl => k ls' ?_)
          unfold LH
          rw [List.length_set]
          exact lh_sub hl (st_sub0 hwf hok)
        · next k9 hd =>
          cases hh
          refine lv_astore A.1 A.2.1 hd h1 hkk rfl (fun ls' hl => k ls' ?_)
          unfold LH
          rw [List.length_set]
          exact lh_sub hl (st_sub0 hwf hok)
        · cases hh
      obtain ⟨t, a1, b1⟩ := fin (T.setVm v) hT X'
      exact ⟨t, st t a1, b1⟩
    · cases hh
end SpXC
