/-! what is known of texts and of throwing; the rows of SpX -/
def ztx (i : Nat) : String := (["no such argument", "floors man card piano", "praise true vanity weight pride heard rides floor man least most", "enter leave say insult go walk night again", "no such man or card", "floors", "man", "card", "piano", "least", "most", "praise", "true", "vanity", "weight", "pride", "heard", "rides", "floor", "enter", "leave", "say", "insult", "go", "walk", "night", "again"] : List String).getD i ""
/-- the String constants as they lie in the old heap -/
def zS (E : EE) (aV : Nat → Nat) (U : State) (H : Heap) : Prop := ∀ i : Nat, i < 27 → va_O "java/lang/String" (eA E i) (frz E) U H ∧ va_OF "java/lang/String" "coder" "B" (.int 0) (eA E i) (frz E) U H ∧ va_OF "java/lang/String" "value" "[B" (.ref (aV i)) (eA E i) (frz E) U H ∧ va_T .byte (aV i) (slen i) (fun j => .int (sbyt i j)) (frz E) U H
theorem zS_moved {E : EE} {aV : Nat → Nat} {u U : State} {H : Heap} (hvm : u.vm.Alike U.vm) (h : zS E aV u H) : zS E aV U H := fun i hi => ⟨va_O.moved hvm (h i hi).1, va_OF.moved hvm (h i hi).2.1, va_OF.moved hvm (h i hi).2.2.1, va_T.moved hvm (h i hi).2.2.2⟩
def KX (E : EE) (U : State) : Prop := (∀ o idx i, sl o idx = some i → vk_R (zC o) idx (ztx i) (eA E i) U) ∧
  (va_Nw (.castable (xNm 0) (xNm 0)) U ∧ va_Nw (.castable (xNm 1) (xNm 1)) U ∧ va_Nc (xNm 0) (xNm 1) U ∧ va_Nc (xNm 1) (xNm 0) U) ∧
  (va_Nw (.declares (Bundle.initS "java/lang/RuntimeException")) U ∧ va_Nw (.declares (Bundle.initS "java/lang/Exception")) U ∧ va_Nw (.declares (Bundle.initS Bundle.tN)) U) ∧
  (vx_Zq Bundle.tN "UNASSIGNED_STACK" Bundle.steD (frz E) U (eH E) ∧ vx_Zq Bundle.tN "SUPPRESSED_SENTINEL" Bundle.listD (frz E) U (eH E)) ∧
  (∃ aV : Nat → Nat, zS E aV U (eH E)) ∧
  va_Z "java/lang/String" "COMPACT_STRINGS" "Z" (.int 1) (frz E) U (eH E) ∧ va_Zq "jdk/internal/util/Preconditions" "SIOOBE_FORMATTER" "Ljava/util/function/BiFunction;" (frz E) U (eH E)
theorem kw_KX (E : EE) : Kw (KX E) := by
  intro s U hW h
  obtain ⟨h1, ⟨a1, a2, a3, a4⟩, ⟨b1, b2, b3⟩, ⟨c1, c2⟩, ⟨aV, d1⟩, e1, e2⟩ := h
  exact ⟨fun o idx i hi => (h1 o idx i hi).warm hW, ⟨va_Nw.warmC hW a1, va_Nw.warmC hW a2, va_Nc.moved hW.alike a3, va_Nc.moved hW.alike a4⟩, ⟨va_Nw.warmD hW b1, va_Nw.warmD hW b2, va_Nw.warmD hW b3⟩, ⟨vx_Zq.moved hW.alike c1, vx_Zq.moved hW.alike c2⟩, ⟨aV, zS_moved hW.alike d1⟩, va_Z.moved hW.alike e1, va_Zq.moved hW.alike e2⟩
theorem xk_13 {i x : Nat} (h : xk 13 i = some x) : (i = 13 ∧ x = 1) ∨ (i = 31 ∧ x = 0) := by
  have hm := look_mem h
  simp only [xkL, List.mem_cons, Prod.mk.injEq, List.not_mem_nil, or_false] at hm
  omega
theorem xk_link {i x : Nat} (h : xk 13 i = some x) : Cond.classLink (zC 13) i (xNm x) ∈ gt := by
  rcases xk_13 h with ⟨rfl, rfl⟩ | ⟨rfl, rfl⟩
  · exact (mt3 67 rfl rfl)
  · exact (mt5 42 rfl rfl)

section SpXC
variable {p : Program} {l : Launch} {e : Env} {R : Room} {s : State} {m : MethodId} {args : Array Value} {below : List Frame} {meth : Method} {c : Code} {Q : State → Prop}
variable {E : EE} {mm : MM} {d : Nat} {σ0 : HP}
theorem x_catch (A : Act E (KX E) p R s m args meth c mm d) {pc x q kk : Nat} {L : LV} {σ : HP} {ls : Array Slot} {H : Heap} {locs : List Loc} {cells slots qa : Nat} {ce : Cell} {rest : List Value} (hh : hnd mm pc x = some (q, kk)) (h13 : zo mm = 13) (hkk : kk < L.length) (hok : okS (zs mm) kk = true) (hwf : wfL (zs mm) L σ) (h1 : LH E ls L) (hcell : H[qa]? = some ce) (hvm : ce.vm = .none) (hcl : s.vm.findClass (xNm x) = some ce.cls)
    (k : ∀ ls' : Array Slot, LH E ls' (L.set kk none) → W p l e R s m args below meth c H locs cells slots Q (F0 m q ls' [])) : vx_W p l e R s m args below meth c H locs cells slots Q (F0 m pc ls rest) qa := by
  have hts := A.2.2.2.2.2.1
  have hown := A.2.2.2.2.1
  rw [h13] at hown
  have hKX : KX E s := A.2.2.2.2.2.2.2.2.2.1.2.2.2.2.2.2.2
  unfold hnd at hh
  split at hh
  · cases hh
  · next hall =>
    have hall : (zh mm).all (fun q => (xk (zo mm) q.2.2.2).isSome) = true := by
      cases hz : (zh mm).all (fun q => (xk (zo mm) q.2.2.2).isSome)
      · exact absurd hz hall
      · rfl
    split at hh
    · next r hr =>
      obtain ⟨hp, pre, suf, hsp, hpre⟩ := List.find?_eq_some_iff_append.mp hr
      simp only [decide_eq_true_eq] at hp
      obtain ⟨p1, p2, p3⟩ := hp
      rw [h13] at p3
      have hx01 : x = 0 ∨ x = 1 := by rcases xk_13 p3 with ⟨-, z⟩ | ⟨-, z⟩ <;> omega
      have hcast : (Cond.castable (xNm x) (xNm x)).before args s = true := by
        rcases hx01 with rfl | rfl
        · exact va_Nw.use rfl hKX.2.1.1
        · exact va_Nw.use rfl hKX.2.1.2.1
      intro T hT X
      have hpl : e.platform.magicAccessors = ({} : Platform).magicAccessors := by rw [X.admits.platform]
      obtain ⟨c3, c4, hc3, hc4, hasg⟩ := Cond.castable_spec hcast
      cases Option.some.inj (hc3.symm.trans hcl)
      obtain ⟨c5, hc5, hcl5⟩ := Cond.classLink_spec hown (hts _ (xk_link p3)) e.platform hpl
      cases Option.some.inj (hc4.symm.trans hc5)
      have htab : c.exceptionTable.toList = tableOf pre ++ (⟨r.1, r.2.1, r.2.2.1, r.2.2.2⟩ : ExceptionTableEntry) :: tableOf suf := by
        rw [A.2.2.2.2.2.2.2.2.1, hsp]
        unfold tableOf
        rw [List.map_append, List.map_cons]
      have h0 : r.2.2.2 ≠ 0 := by rcases xk_13 p3 with ⟨z, -⟩ | ⟨z, -⟩ <;> omega
      obtain ⟨vm', X', st⟩ := zx_thrown X (g := F0 m pc ls rest) rfl (a := qa) (cell := ce) (by rw [hT]; exact hcell) (by rw [hvm]; rfl) (by obtain ⟨k9, h9, -⟩ := Vm.findClass_spec hcl; exact ⟨k9, h9⟩) (tableOf pre) _ (tableOf suf) htab
        (fun y hy => by
          obtain ⟨z, hz, rfl⟩ := List.mem_map.mp hy
          have hnz := hpre z hz
          by_cases hcov : z.1 ≤ pc ∧ pc < z.2.1
          · have hzs : (xk (zo mm) z.2.2.2).isSome = true := List.all_eq_true.mp hall z (by rw [hsp]; exact List.mem_append_left _ hz)
            rw [h13] at hzs hnz
            obtain ⟨x', hx'⟩ := Option.isSome_iff_exists.mp hzs
            have hne : x' ≠ x := fun e9 => by
              rw [hx', e9] at hnz
              simp [hcov] at hnz
            have hx01' : x' = 0 ∨ x' = 1 := by rcases xk_13 hx' with ⟨-, z⟩ | ⟨-, z⟩ <;> omega
            have hN : va_Nc (xNm x) (xNm x') s := by
              rcases hx01 with rfl | rfl <;> rcases hx01' with rfl | rfl
              · exact absurd rfl hne
              · exact hKX.2.1.2.2.1
              · exact hKX.2.1.2.2.2
              · exact absurd rfl hne
            obtain ⟨a8, b8, n1, n2, n3⟩ := hN
            cases Option.some.inj (n1.symm.trans hcl)
            obtain ⟨c6, hc6, hcl6⟩ := Cond.classLink_spec hown (hts _ (xk_link hx')) e.platform hpl
            cases Option.some.inj (n2.symm.trans hc6)
            exact Or.inr ⟨by rcases xk_13 hx' with ⟨z9, -⟩ | ⟨z9, -⟩ <;> (show z.2.2.2 ≠ 0; omega), _, hcl6, n3⟩
          · refine Or.inl ?_
            show (decide (z.1 ≤ pc) && decide (pc < z.2.1)) = false
            by_cases q1 : z.1 ≤ pc
            · have q2 : ¬ pc < z.2.1 := fun q2 => hcov ⟨q1, q2⟩
              simp [q2]
            · simp [q1])
        (by show (decide (r.1 ≤ pc) && decide (pc < r.2.1)) = true; simp [p1, p2]) h0 hcl5 hasg
      have fin : W p l e R s m args below meth c H locs cells slots Q (F0 m r.2.2.1 ls [.ref qa]) := by
        split at hh
        · next k9 hd =>
          cases hh
          refine lv_astore_n A.1 A.2.1 hd rfl h1 hkk rfl (fun ls' hl => k ls' ?_)
          unfold LH
          rw [List.length_set]
          exact lh_sub hl (st_sub0 hwf hok)
        · next k9 hd =>
          cases hh
          refine lv_astore A.1 A.2.1 hd h1 hkk rfl (fun ls' hl => k ls' ?_)
          unfold LH
          rw [List.length_set]
          exact lh_sub hl (st_sub0 hwf hok)
        · cases hh
      obtain ⟨t, a1, b1⟩ := fin (T.setVm vm') hT X'
      exact ⟨t, st t a1, b1⟩
    · cases hh
end SpXC
