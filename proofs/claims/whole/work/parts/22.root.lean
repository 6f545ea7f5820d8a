/-! THE CLAIM OUT OF ONE WALK OF THE LAW'S BODY. Your part is whole_start (and what it stands on); all else here is the same for every law, but numbers. -/
def R_law : String := "PraiseLiftLaw"
def lw_P (b : Addr) (xs : List Int32) (args : Array Value) (s : State) : Prop := args = #[.ref b] ∧ s.IntsAt b xs ∧ xs.length ≤ 640 ∧ (Jvm.Cond.and given_1 narrow_1).before args s = true
def lw_Q (_ : Array Value) (s : State) (o : Outcome) (t : State) : Prop := o = .returned (some (.int 1)) ∧ Framed s o t [] 600128 7301098
def lw_Z (below : List Frame) (a : Array Value) (s : State) : State → Prop := fun t => ∃ o, t.status = .running ∧ Ended t below o ∧ lw_Q a s o t
/-- the law's own end, with 1 on the stack, nothing written that was there before, its room as the claim has it -/
theorem lw_ret {p : Program} {l : Launch} {e : Env} {s : State} {m : MethodId} {below : List Frame} {meth : Method} {c : Code} {b : Nat} (hx : p.tables.exec = Jvm.exec) (hb : c.code = code) (hr : meth.sig.returnType = ret) (hlocks : meth.locks = false) {pc : Nat} {H : Heap} {ls : Array Slot} (hdg : decode code pc = .ok (.ireturn, 1)) : W p l e room_1 s m #[Value.ref b] below meth c H [] 600128 7301098 (lw_Z below #[Value.ref b] s) (F0 m pc ls [.int 1]) := by
  intro T hT X
  obtain ⟨fs, hret, hrun, hended, hW, hframe⟩ := X.leave (v := some (.int 1)) (hlocks := hlocks) (fun h => by rw [hr] at h; cases h)
  have hmeth' : T.vm.method? m = some meth := X.method'
  refine ⟨T.setFrames fs, ?_, .returned (some (.int 1)), hrun, hended, rfl, ⟨_, rfl⟩, hW, hframe⟩
  jvm_step X.here [X.here.top, hx, hb, hdg, hmeth', hr, ret, narrow_b1]
  (try refine ⟨rfl, ?_⟩); (try refine ⟨rfl, ?_⟩)
  first | (intro acts; rw [hret _ acts rfl rfl rfl]) | rw [hret _ _ rfl rfl rfl]
  exact Steps.refl _
/-- what holds at the law's entry: the machine, the code, the tables' words (any of lw_tbl by 'hts w (by decide +kernel)'), the script of L ints xs at the cell b, what the Statement gives of the start (any of its parts by flat_of_before) -/
def lw_At (p : Program) (s : State) (m : MethodId) (meth : Method) (c : Code) (b L : Nat) (xs : Nat → Int32) : Prop :=
  p.tables.exec = Jvm.exec ∧ c.code = code ∧ meth.sig.returnType = ret ∧ c.maxLocals = 8 ∧ s.vm.findClass R_law = some m.cls ∧ (∀ w ∈ lw_tbl, w.before #[Value.ref b] s = true) ∧ va_X b L xs s s.heap ∧ b < s.heap.size ∧ meth.locks = false ∧ (Jvm.Cond.and given_1 narrow_1).before #[Value.ref b] s = true

def heap0 (L : Nat) (xs : Nat → Int32) : HP := ((0, 0, L, fun _ => 0), (fun a j => if a = 18 then xs j else 0), (fun _ _ => 0), (fun _ _ => none))
/-- what is left to show, of the small machine alone -/
def Main : Prop := ∀ (L : Nat) (xs : Nat → Int32), L ≤ 640 → ∃ σ : HP, runF (callF 2047) 2047 m_LL_lawz (0, ent 8 [.ref 18], [], heap0 L xs) = some (.inl (some (.int 1)), σ) ∧ hN σ ≤ 600128 ∧ hS σ ≤ 7301098
theorem gt_lw : ∀ w ∈ gt, w ∈ lw_tbl := fun w h => (List.mem_filter.mp h).1
theorem start_D {args : Array Value} {s : State} (hts : ∀ w ∈ gt, w.before args s = true) : ∃ D : va_G, ∀ ci, ci < 13 → u_Kn s (zC ci) (zT ci) (zN ci) (D.1 ci) (D.2 ci) := by
  have h : ∀ ci, ∃ q : ClassId × (Nat → Nat), ci < 13 → u_Kn s (zC ci) (zT ci) (zN ci) q.1 q.2 := by
    intro ci
    by_cases hci : ci < 13
    · obtain ⟨cC, iS, hk⟩ := u_known hts (u_in hci) (hts _ (u_ins hci).1)
      exact ⟨(cC, iS), fun _ => hk⟩
    · exact ⟨(0, fun _ => 0), fun z => absurd z hci⟩
  exact ⟨(fun ci => (Classical.choose (h ci)).1, fun ci => (Classical.choose (h ci)).2), fun ci hci => Classical.choose_spec (h ci) hci⟩
theorem prim_arr {args : Array Value} {s : State} {ty : FieldType} (h : (Cond.arrayClass ty).before args s = true) (hno : ∀ C, ty ≠ .object C) : ∃ c : ClassId, ArrOfT s c ty ∧ va_RA s c ty := by
  obtain ⟨c, k, comp, h1, h2, h3⟩ := Cond.arrayClass_spec h
  refine ⟨c, fun n z => ⟨fun k h => (by cases h), k, h2, comp, h3⟩, ?_⟩
  cases ty with
  | object C => exact absurd rfl (hno C)
  | _ => exact h1
theorem obj_arr {args : Array Value} {s : State} {C : String} (h : (Cond.arrayOver (.object C)).before args s = true) : ∃ c : ClassId, ArrOfT s c (.object C) ∧ va_RA s c (.object C) := by
  obtain ⟨comp, c, k, h1, h2, h3, h4, h5⟩ := Cond.arrayOver_spec h
  exact ⟨c, fun n z => ⟨fun k h => (by cases h), k, h3, comp, h4⟩, k, comp, h3, h4, h1, h5⟩
theorem start_cy {args : Array Value} {s : State} (hts : ∀ w ∈ lw_tbl, w.before args s = true) : ∃ cy : Nat → ClassId, ∀ t, 1 ≤ t → t ≤ 5 → ArrOfT s (cy t) (tyE t) ∧ va_RA s (cy t) (tyE t) := by
  obtain ⟨c1, g1⟩ := prim_arr (hts _ (gt_lw _ ac_int)) (fun _ q => by cases q)
  obtain ⟨c2, g2⟩ := prim_arr (hts _ (gt_lw _ ac_long)) (fun _ q => by cases q)
  obtain ⟨c3, g3⟩ := prim_arr (hts _ (gt_lw _ ac_byte)) (fun _ q => by cases q)
  obtain ⟨c4, g4⟩ := obj_arr (C := "PraiseLift$Days") (hts _ (List.mem_append_right _ (by unfold tables_1; exact List.mem_append_right _ (List.mem_append_left _ (List.mem_of_getElem? (i := 30) rfl)))))
  obtain ⟨c5, g5⟩ := obj_arr (C := "PraiseLift$Image") (hts _ (List.mem_append_right _ (by unfold tables_1; exact List.mem_append_right _ (List.mem_append_left _ (List.mem_of_getElem? (i := 32) rfl)))))
  refine ⟨fun t => if t = 1 then c1 else if t = 2 then c2 else if t = 3 then c3 else if t = 4 then c4 else c5, fun t h1 h2 => ?_⟩
  rcases (show t = 1 ∨ t = 2 ∨ t = 3 ∨ t = 4 ∨ t = 5 by omega) with rfl | rfl | rfl | rfl | rfl
  · exact g1
  · exact g2
  · exact g3
  · exact g4
  · exact g5
theorem rep_0 (D : va_G) (cy : Nat → ClassId) (H : Heap) (aS : Nat → Nat) (b : Nat) (xs : Nat → Int32) (L : Nat) : Rep (D, cy, H.size, H, aS, b, xs, L) (heap0 L xs) H := ⟨rfl, fun _ _ => rfl, fun a h => absurd h.1 (Nat.not_lt_zero _), rfl, fun j _ => by
  show (if (18 : Nat) = 18 then xs j else 0) = xs j
  exact if_pos rfl⟩
theorem virt_x {C : CF} {d : Nat} {m : MM} {idx pc : Nat} {L : LV} {st : List Value} {σ : HP} {r : Res} (h : zVirt C d m idx pc L st σ = some (.inl r)) : ∃ x, r.1 = .inr x := by
  unfold zVirt at h
  split at h
  · next m' hm =>
    split at h
    · split at h
      · unfold zCall at h
        split at h
        · cases hc : C m' (st.take (zn m')).reverse σ with
          | none => rw [hc] at h; cases h
          | some r9 =>
            rw [hc] at h
            obtain ⟨o, σ'⟩ := r9
            cases o with
            | inl v => cases h
            | inr y =>
              unfold zBack at h
              dsimp only at h
              split at h
              · cases h; exact ⟨y, rfl⟩
              · split at h
                · split at h
                  · cases h
                  · cases h
                · cases h
        · cases h
      · cases h
    · cases h
  · split at h
    · split at h
      · cases h
      · cases h
    · cases h
  · split at h
    · split at h
      · cases h
      · cases h
    · cases h
  · cases h
/-- the law's end -/
theorem en_law {p : Program} {l : Launch} {e : Env} {s : State} {m : MethodId} {below : List Frame} {meth : Method} {c : Code} {b : Nat} {E : EE} {K : State → Prop} {d : Nat} {C : CF} {σ0 σ : HP} (hz : hN σ0 = 0 ∧ hS σ0 = 0) (hB : eB E = s.heap.size) (A : Act E K p room_1 s m #[Value.ref b] meth c m_LL_lawz d) (h1 : hN σ ≤ 600128) (h2 : hS σ ≤ 7301098) {y : Cfg} (h : step1 C d m_LL_lawz y = some (.inl (.inl (some (.int 1)), σ))) : WK E p l e room_1 s m #[Value.ref b] below meth c (lw_Z below #[Value.ref b] s) σ0 y := by
  obtain ⟨pc, L, st, σ'⟩ := y
  have key : ∀ (hd : decode (zb m_LL_lawz) pc = .ok (.ireturn, 1)), zIret m_LL_lawz st σ' = some (.inl (.inl (some (.int 1)), σ)) → WK E p l e room_1 s m #[Value.ref b] below meth c (lw_Z below #[Value.ref b] s) σ0 (pc, L, st, σ') := by
    intro hd h
    unfold zIret at h
    split at h
    · next v =>
      split at h
      · split at h
        · cases h
          intro ls H locs cells slots g1 g2 g3 g4 g5
          have g4 : cells + hN σ0 = hN σ := g4
          have g5 : slots + hS σ0 = hS σ := g5
          refine va_forget (fun q hq => by rw [← hB]; exact g3 q hq) ?_
          refine W.widen (k := 600128) (n := 7301098) (by omega) (by omega) ?_
          exact lw_ret A.1 A.2.1 A.2.2.2.1 A.2.2.2.2.2.2.1 hd
        · cases h
      · cases h
    · cases h
  unfold step1 at h
  split at h
  · next i n hd =>
    have hd : decode (zb m_LL_lawz) pc = .ok (i, n) := hd
    dsimp only at h
    unfold stepI at h
    split at h
    all_goals first
      | exact (no_zTable h).elim
      | exact (no_zLook h).elim
      | (cases h; done)
      | (obtain ⟨e9, h9⟩ := gd_eq h; subst e9)
    all_goals first
      | exact key hd h9
      | (unfold zLret at h9; split at h9; split at h9; cases h9; cases h9; cases h9; done)
      | (unfold zVret at h9; split at h9; split at h9; cases h9; cases h9; cases h9; done)
      | (obtain ⟨x9, hx9⟩ := virt_x h9; cases hx9; done)
      | (unfold zNew at h9; repeat' split at h9; all_goals (cases h9); done)
      | exact (no_zLoadA h9).elim
      | exact (no_zLoadI h9).elim
      | exact (no_zLoadL h9).elim
      | exact (no_zStoreA h9).elim
      | exact (no_zStoreI h9).elim
      | exact (no_zStoreL h9).elim
      | exact (no_zInc h9).elim
      | exact (no_zBin h9).elim
      | exact (no_zDiv h9).elim
      | exact (no_zUn h9).elim
      | exact (no_zBinL h9).elim
      | exact (no_zDivL h9).elim
      | exact (no_zShlL h9).elim
      | exact (no_zI2l h9).elim
      | exact (no_zLcmp h9).elim
      | exact (no_zDup h9).elim
      | exact (no_zDup2 h9).elim
      | exact (no_zPop h9).elim
      | exact (no_zCmp h9).elim
      | exact (no_zIf h9).elim
      | exact (no_zIfnull h9).elim
      | exact (no_zGet h9).elim
      | exact (no_zPut h9).elim
      | exact (no_zArr h9).elim
      | exact (no_zAlen h9).elim
      | exact (no_zIald h9).elim
      | exact (no_zIast h9).elim
      | exact (no_zBald h9).elim
      | exact (no_zBast h9).elim
      | exact (no_zLald h9).elim
      | exact (no_zLast h9).elim
      | exact (no_zAald h9).elim
      | exact (no_zAast h9).elim
      | exact (no_zLdc h9).elim
      | exact (no_zLdc2 h9).elim
      | exact (no_zSpec h9).elim
      | exact (no_zStat h9).elim
      | exact (no_jmp h9).elim
      | exact (no_go h9).elim
      | (split at h9
         · exact (no_zArr h9).elim
         · cases h9)
  · cases h
theorem whole_open (hMain : Main) {p : Program} {e : Env} {s : State} {m : MethodId} {below : List Frame} {meth : Method} {c : Code} (l : Launch) (htr : l.stackTraces = false) {b L : Nat} {xs : Nat → Int32} (hL : L ≤ 640) (C0 : lw_At p s m meth c b L xs) (htab : c.exceptionTable.toList = []) : W p l e room_1 s m #[Value.ref b] below meth c s.heap [] 0 0 (lw_Z below #[Value.ref b] s) (entryFrame m ([Value.ref b] : List Value).toArray 8) := by
  obtain ⟨hx, hb, hr, hml, hown, hts, hX, hbl, hlocks, hgv⟩ := C0
  have hnar : narrow_1.before #[Value.ref b] s = true := and_r hgv
  have htg : ∀ w ∈ gt, w.before #[Value.ref b] s = true := fun w hw => hts w (gt_lw w hw)
  obtain ⟨D, hD⟩ := start_D htg
  obtain ⟨cy, hcy⟩ := start_cy hts
  obtain ⟨aS, hKX⟩ := start_KX hts hnar D cy xs L
  obtain ⟨E, hE⟩ : ∃ E : EE, E = (D, cy, s.heap.size, s.heap, aS, b, xs, L) := ⟨_, rfl⟩
  rw [← hE] at hKX
  have hrep : Rep E (heap0 L xs) s.heap := by rw [hE]; exact rep_0 D cy s.heap aS b xs L
  have hB : eB E = s.heap.size := by rw [hE]; rfl
  have hKn : Kn E (KX E) s := by
    refine ⟨⟨fun ci q hq => ?_, fun k q hq => ?_⟩, fun w hw => ?_, va_AO.of (hts _ (List.mem_append_right _ (by unfold tables_1; exact List.mem_append_right _ (List.mem_append_left _ (List.mem_of_getElem? (i := 30) rfl))))), va_AO.of (hts _ (List.mem_append_right _ (by unfold tables_1; exact List.mem_append_right _ (List.mem_append_left _ (List.mem_of_getElem? (i := 32) rfl))))), ?_, ?_, ?_, hKX⟩
    · have hlt : ci < 13 := by
        have := (List.getElem?_eq_some_iff.mp hq).1
        rw [show clz.length = 13 from rfl] at this
        exact this
      rw [clz_at hlt] at hq
      cases hq
      rw [hE]
      exact hD ci hlt
    · have hlt : k < 5 := by
        have := (List.getElem?_eq_some_iff.mp hq).1
        rw [show (tyz E).length = 5 from rfl] at this
        exact this
      have h9 := tyz_at E (e := k + 1) (by omega) (by omega)
      rw [show k + 1 - 1 = k by omega] at h9
      cases Option.some.inj (h9.symm.trans hq)
      have := hcy (k + 1) (by omega) (by omega)
      rw [hE]
      exact this
    · have hn := (List.mem_filter.mp hw).2
      have hz := hts w (List.mem_append_right _ (List.mem_filter.mp hw).1)
      cases w with
      | methodLinkNest a b c d => exact va_Nw.of rfl hz
      | _ => cases hn
    · rw [hE]; exact hX
    · rw [hE]; exact hbl
    · rw [hE]; rfl
  obtain ⟨d9, hd9⟩ : ∃ d9 : Nat, d9 = 2047 := ⟨_, rfl⟩
  have A : Act E (KX E) p room_1 s m #[Value.ref b] meth c m_LL_lawz d9 := ⟨hx, hb, hml, hr, hown, htg, hlocks, fun z => by (cases z), htab, hKn, by rw [hd9]; rfl, by rw [hd9]; decide⟩
  obtain ⟨σ, hrun, hc1, hc2⟩ := hMain L xs hL
  rw [← hd9] at hrun
  obtain ⟨f, hf⟩ := runF_some.mp hrun
  have hSX := spx (E := E) (l := l) htr
  have hCS := cs_callF (kw_KX E) (sps (E := E) (l := l)) hSX d9
  have hwf : WF m_LL_lawz (0, ent 8 [.ref 18], [], heap0 L xs) := wf_ent (m := m_LL_lawz) (by decide +kernel) (fun v hv => by
    rw [List.mem_singleton.mp hv]
    exact Or.inr (Or.inl rfl)) (fun a j c h => by cases h)
  have hRm : Rm room_1 (heap0 L xs) σ := by
    have e1 : hN (heap0 L xs) = 0 := rfl
    have e2 : room_1.cells = 600128 := rfl
    have e3 : hS (heap0 L xs) = 0 := rfl
    have e4 : room_1.slots = 7301098 := rfl
    unfold Rm
    rw [e1, e2, e3, e4]
    exact ⟨by omega, by omega⟩
  rw [lg_entry_eq]
  have hlh : LH E ((lg_sl ([Value.ref b] : List Value) ++ List.replicate (8 - (lg_sl ([Value.ref b] : List Value)).length) Slot.unset).toArray) (ent 8 [.ref 18]) := by
    have h9 := ent_lh (E := E) (σ := heap0 L xs) (a := [.ref 18]) (n := 8) (by decide) (fun v hv => by
      rw [List.mem_singleton.mp hv]
      exact Or.inr (Or.inl rfl))
    have e9 : ([.ref 18] : List Value).map (cv E) = [.ref b] := by
      rw [hE]
      rfl
    rw [e9] at h9
    exact h9
  exact act_run (σ0 := heap0 L xs) A (kw_KX E) sps hSX (fun z => absurd rfl z) hCS (kp_callF d9) (r := (.inl (some (.int 1)), σ)) hRm (fun y _ hs => en_law ⟨rfl, rfl⟩ hB A hc1 hc2 hs) f _ hf hwf _ _ [] 0 0 hlh hrep (fun _ z => by cases z) rfl rfl
set_option maxHeartbeats 4000000 in
theorem lw_walk (hMain : Main) (l : Launch) (htr : l.stackTraces = false) (b : Addr) (xs : List Int32) : MetFree l x (headSpec (Jvm.Cond.code x code maxLocals ret :: tables_1) room_1) (lw_P b xs) (fun _ _ _ _ _ => True) lw_Q := by
  refine MetFree.of_bodyS (code := code) (maxLocals := maxLocals) (ret := ret) (by decide) ?_ ?_
  · intro args s m h hn
    obtain ⟨meth, c, h1, h2, h3, h4, h5, h6, -, -⟩ := Cond.code_spec hn (atoms_spec (ws := Jvm.Cond.code x code maxLocals ret :: tables_1) h _ List.mem_cons_self)
    exact ⟨meth, c, h1, h2, h3, h4, h5, h6⟩
  · intro p e s m args below meth c s₁ B hml0 hP _
    obtain ⟨rfl, hx, hbd, hgv⟩ := hP
    obtain ⟨scr, harrAt, hlist, hof, hsmall⟩ := hx
    obtain ⟨hcb, hkn, -, -⟩ := State.arrayAt?_spec harrAt
    have hown : s.vm.findClass R_law = some m.cls := findClass_of_methodNamed B.named
    have hts0 : ∀ c ∈ (Jvm.Cond.code x code maxLocals ret :: tables_1), c.before #[Value.ref b] s = true := atoms_spec (ws := Jvm.Cond.code x code maxLocals ret :: tables_1) B.pre
    have hts : ∀ w ∈ lw_tbl, w.before #[Value.ref b] s = true := k2_hts_sels lw_privs (fun w hw => hts0 w (List.mem_cons_of_mem _ hw)) lw_privs_ok
    have hml : c.maxLocals = 8 := B.maxLocals_eq (hts0 _ List.mem_cons_self)
    have X₀ : Stand p l e room_1 s m #[Value.ref b] below meth c s₁ [] 0 0 := Stand.of_body B
    have hh0 : s₁.heap = s.heap := by rw [B.state]; rfl
    have hsz : scr.slots.size = xs.length := by rw [← Array.length_toList, hlist, List.length_map]
    have hval : ∀ j : Nat, j < xs.length → scr.slots[j]? = some (.int (xs.getD j 0)) := fun j hj => by
      rw [← Array.getElem?_toList, hlist]
      simp [hj]
    have hbl : b < s.heap.size := (Array.getElem?_eq_some_iff.mp hcb).1
    have hX : va_X b xs.length (fun j => xs.getD j 0) s s.heap := ⟨scr, hcb, hof, hkn, hsz, hval⟩
    have K : W p l e room_1 s m #[Value.ref b] below meth c s₁.heap [] 0 0 (lw_Z below #[Value.ref b] s) (entryFrame m ([Value.ref b] : List Value).toArray 8) := by
      rw [hh0]
      exact whole_open hMain l htr hbd ⟨B.exec, B.bytes, B.returns, hml, hown, hts, hX, hbl, B.notSynchronized, hgv⟩ (by
        obtain ⟨meth9, c9, q1, q2, -, -, -, -, q7, -⟩ := Cond.code_spec B.named (hts0 _ List.mem_cons_self)
        cases Option.some.inj (q1.symm.trans B.method)
        cases Option.some.inj (q2.symm.trans (Stand.of_body B).code)
        rw [Array.isEmpty_iff.mp q7])
    obtain ⟨t, a1, o, b1, b2, b3⟩ := K s₁ rfl X₀
    exact ⟨t, o, a1, b1, b2, b3⟩
theorem lw_pre_spec {args : Array Value} {s : State} (h : (Jvm.Cond.and given_1 narrow_1).before args s = true) (hr : rest_1_c.before args s = true) : ∃ (b : Addr) (xs : List Int32), lw_P b xs args s := by
  have hs := flat_of_before _ h
  have hq := flat_of_before _ hr
  have hc : (Cond.count 1).before args s = true := hs _ (by decide +kernel)
  have harr : (Cond.arrayOf (.arg 0) .int).before args s = true := hs _ (by decide +kernel)
  have hle : (Cond.le (.length (.arg 0)) (.int 640)).before args s = true := hs _ (by decide +kernel)
  have hlen : (Cond.isInt (.length (.arg 0))).before args s = true := hq _ (by decide +kernel)
  have hall : (Cond.all (.arg 0) (.isInt (.elem (.arg 0) (.index 0)))).before args s = true := hq _ (by decide +kernel)
  obtain ⟨b, xs, hb, hx⟩ := State.ints_of_pre rfl harr hlen hall
  have hsm : xs.length < 2 ^ 31 := hx.choose_spec.2.2.2
  have hev : (Term.length (.arg 0)).eval args s none [] s = some (.int xs.length.toInt32) := hx.length_eval hb
  have hv := Cond.le_ints hev (show (Term.int 640).eval args s none [] s = some (.int 640) from rfl)
  have hd : xs.length.toInt32 ≤ 640 := by
    simpa [Cond.before, Cond.holds, hv] using hle
  have hN : xs.length ≤ 640 := (Int32.ofNat_le_ofNat hsm (by decide)).mp (show Int32.ofNat xs.length ≤ Int32.ofNat 640 from hd)
  exact ⟨b, xs, Cond.one_arg hc (show args[0]? = some (.ref b) from hb), hx, hN, h⟩
theorem lw_comes (hMain : Main) (l : Launch) (htr : l.stackTraces = false) : Comes l x (Jvm.Cond.code x code maxLocals ret :: tables_1) room_1 (fun tb e args s => Calls_1 tb e args s ∧ rest_1 tb e args s ∧ Pre_1 tb e args s)
    (fun _ _ args s o t => lw_Q args s o t) := by
  intro p e ha hc hk s m args below hf hfit hheap happ hpre
  obtain ⟨b, xs, hP⟩ := lw_pre_spec hpre.2.2 hpre.2.1
  obtain ⟨k, o, h1, h2, h3, hQ⟩ := lw_walk hMain l htr b xs p e ha hc hk s m args below hf ((Spec.applies_iff_loose hf).mp happ).1 hP trivial
  exact ⟨k, o, h1, h2, h3, hQ⟩
theorem lw_frame {s t : State} {o : Outcome} {args : Array Value} (h : Framed s o t [] 600128 7301098) :
    Framed s o t (fieldLocs frame_1_writes args s ++ arrayLocs frame_1_arrays args s ++ staticLocs frame_1_statics s) 600128 7301098 := h
theorem lw_limb (hMain : Main) (L : Cond) (hL : ∀ (args : Array Value) (s t : State), L.after args s (.returned (some (.int 1))) t = true) :
    ArmFor flags0 classFile x code maxLocals ret World_1 tables_1 room_1 Calls_1 rest_1 Pre_1
      (fun tb e a s o t => postC L tb e a s o t ∧ Framed s o t (fieldLocs frame_1_writes a s ++ arrayLocs frame_1_arrays a s ++ staticLocs frame_1_statics s) 600128 7301098) := by
  intro l hfl _ _ p e ha hc hk s m args below hf hfit hheap happ hpre
  obtain ⟨k, o, h1, h2, h3, rfl, hF⟩ := lw_comes hMain l (by unfold Launch.stackTraces; rw [hfl]; decide +kernel) p e ha hc hk s m args below hf hfit hheap happ hpre
  exact ⟨k, _, h1, h2, h3, hL args s _, lw_frame hF⟩
theorem i_vc_open (hMain : Main) : Claimed_1_1 ∧ Claimed_1_2 := ⟨lw_limb hMain limb_1_1 (fun args s t => by simp [limb_1_1, Cond.after, Cond.holds, Cond.value]), lw_limb hMain limb_1_2 (fun args s t => Cond.after_iff.mpr (by
  first | (rw [show limb_1_2 = Cond.eq .result (.int 1) from rfl, Cond.eq_ints (x := 1) (y := 1) rfl rfl]; simp; done) | (simp [limb_1_2, Cond.value, Term.eval]; done)))⟩
