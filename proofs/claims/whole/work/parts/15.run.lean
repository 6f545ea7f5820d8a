/-! every step, every run, every call of the small machine is one of the real machine -/
section SndY
variable {p : Program} {l : Launch} {e : Env} {R : Room} {s : State} {m : MethodId} {args : Array Value} {below : List Frame} {meth : Method} {c : Code} {Q : State → Prop}
variable {E : EE} {K : State → Prop} {mm : MM} {d : Nat} {σ0 : HP} {C : CF}
theorem sn_virt (A : Act E K p R s m args meth c mm d) (hK : Kw K) (hSS : SpS E K l) (hSX : SpX E K l) (hz13 : zh mm ≠ [] → zo mm = 13) (hCS : CS E K l C d) (hCP : CP C) {idx pc : Nat} {L : LV} {st : List Value} {σ : HP} {x : Cfg} (hd : decode (zb mm) pc = .ok (.invokevirtual idx, 3)) (w : WF mm (pc, L, st, σ)) (h : zVirt C d mm idx pc L st σ = some (.inr x)) (hr : Rm R σ0 x.2.2.2) (k : WK E p l e R s m args below meth c Q σ0 x) : WK E p l e R s m args below meth c Q σ0 (pc, L, st, σ) := by
  unfold zVirt at h
  split at h
  · next m' hm =>
    split at h
    · next a as ea =>
      split at h
      · next ha => exact sn_callV A hK hSX hz13 hCS hCP hd (ml_ok hm) ea ha w h hr k
      · cases h
    · cases h
  · next m' hm =>
    split at h
    · next a r =>
      split at h
      · next hc =>
        cases h
        exact (hSS p e R s m args below meth c Q mm d σ0 A).2.1 idx pc a L r σ hd (ml_ok hm) w hr hc k
      · cases h
    · cases h
  · next m' hm =>
    split at h
    · next i a r =>
      split at h
      · next hc =>
        cases h
        exact (hSS p e R s m args below meth c Q mm d σ0 A).2.2 idx pc a i L r σ hd (ml_ok hm) w hr hc k
      · cases h
    · cases h
  · cases h
theorem sn_spec (A : Act E K p R s m args meth c mm d) (hK : Kw K) (hCS : CS E K l C d) (hCP : CP C) {idx pc : Nat} {L : LV} {st : List Value} {σ : HP} {x : Cfg} (hd : decode (zb mm) pc = .ok (.invokespecial idx, 3)) (w : WF mm (pc, L, st, σ)) (h : zSpec C d mm idx pc L st σ = some (.inr x)) (hr : Rm R σ0 x.2.2.2) (k : WK E p l e R s m args below meth c Q σ0 x) : WK E p l e R s m args below meth c Q σ0 (pc, L, st, σ) := by
  unfold zSpec at h
  split at h
  · next m' hm =>
    split at h
    · next a as ea =>
      split at h
      · exact sn_callN A hK hCS hCP (how := 2) w h hr k (Or.inr ⟨hd, Or.inl (ml_ok hm), a, as, ea⟩)
      · cases h
    · cases h
  · next m' hm =>
    split at h
    · next a as ea =>
      split at h
      · exact sn_callN A hK hCS hCP (how := 3) w h hr k (Or.inr ⟨hd, Or.inr (ml_ok hm), a, as, ea⟩)
      · cases h
    · cases h
  · next m' hm =>
    split at h
    · next a r =>
      split at h
      · next hc =>
        cases h
        exact sn_obj A hd w (ml_ok hm) hc.2 k
      · cases h
    · cases h
  · cases h
theorem sn_stat (A : Act E K p R s m args meth c mm d) (hK : Kw K) (hCS : CS E K l C d) (hCP : CP C) {idx pc : Nat} {L : LV} {st : List Value} {σ : HP} {x : Cfg} (hd : decode (zb mm) pc = .ok (.invokestatic idx, 3)) (w : WF mm (pc, L, st, σ)) (h : zStat C d mm idx pc L st σ = some (.inr x)) (hr : Rm R σ0 x.2.2.2) (k : WK E p l e R s m args below meth c Q σ0 x) : WK E p l e R s m args below meth c Q σ0 (pc, L, st, σ) := by
  unfold zStat at h
  split at h
  · next m' hm => exact sn_callN A hK hCS hCP (how := 0) w h hr k (Or.inl ⟨hd, Or.inl (ml_ok hm)⟩)
  · next m' hm => exact sn_callN A hK hCS hCP (how := 4) w h hr k (Or.inl ⟨hd, Or.inr (Or.inl (ml_ok hm))⟩)
  · next m' hm => exact sn_callN A hK hCS hCP (how := 6) w h hr k (Or.inl ⟨hd, Or.inr (Or.inr (ml_ok hm))⟩)
  · next m' hm =>
    split at h
    · split at h
      · next hc =>
        cases h
        exact sn_copy A hd w (ml_ok hm) hc k
      · cases h
    · cases h
  · next m' hm =>
    split at h
    · split at h
      · next hc =>
        cases h
        exact sn_min A hd w (ml_ok hm) hc hr k
      · cases h
    · cases h
  · next m' hm =>
    split at h
    · split at h
      · next hc =>
        cases h
        exact sn_max A hd w (ml_ok hm) hc hr k
      · cases h
    · cases h
  · next m' hm =>
    split at h
    · split at h
      · next hc =>
        cases h
        exact sn_abs A hd w (ml_ok hm) hc hr k
      · cases h
    · cases h
  · cases h
theorem sn_ldc (A : Act E K p R s m args meth c mm d) (hSS : SpS E K l) {idx pc n : Nat} {L : LV} {st : List Value} {σ : HP} {x : Cfg} (hd : (decode (zb mm) pc = .ok (.ldc idx, 2) ∧ n = 2) ∨ (decode (zb mm) pc = .ok (.ldc_w idx, 3) ∧ n = 3)) (h : zLdc (zo mm) idx n pc L st σ = some (.inr x)) (k : WK E p l e R s m args below meth c Q σ0 x) : WK E p l e R s m args below meth c Q σ0 (pc, L, st, σ) := by
  unfold zLdc at h
  split at h
  · next v hv =>
    cases h
    rcases hd with ⟨hd, rfl⟩ | ⟨hd, rfl⟩
    · exact sn_ldcI A hd hv k
    · exact sn_ldcWI A hd hv k
  · split at h
    · next i hi =>
      cases h
      exact (hSS p e R s m args below meth c Q mm d σ0 A).1 idx pc n i L st σ hd hi k
    · cases h
theorem sn_newz (A : Act E K p R s m args meth c mm d) {idx pc : Nat} {L : LV} {st : List Value} {σ : HP} {x : Cfg} (hd : decode (zb mm) pc = .ok (.new idx, 3)) (w : WF mm (pc, L, st, σ)) (h : zNew d mm idx pc L st σ = some (.inr x)) (hr : Rm R σ0 x.2.2.2) (k : WK E p l e R s m args below meth c Q σ0 x) : WK E p l e R s m args below meth c Q σ0 (pc, L, st, σ) := by
  unfold zNew at h
  split at h
  · next ci hk =>
    cases h
    exact sn_new A hd w hk hr k
  · split at h
    · split at h
      · cases h
      · cases h
    · cases h
set_option maxHeartbeats 4000000 in
theorem sn_step (A : Act E K p R s m args meth c mm d) (hK : Kw K) (hSS : SpS E K l) (hSX : SpX E K l) (hz13 : zh mm ≠ [] → zo mm = 13) (hCS : CS E K l C d) (hCP : CP C) {y x : Cfg} (w : WF mm y) (h : step1 C d mm y = some (.inr x)) (hr : Rm R σ0 x.2.2.2) (k : WK E p l e R s m args below meth c Q σ0 x) : WK E p l e R s m args below meth c Q σ0 y := by
  obtain ⟨pc, L, st, σ⟩ := y
  unfold step1 at h
  split at h
  · next i n hd =>
    have hd : decode (zb mm) pc = .ok (i, n) := hd
    dsimp only at h
    unfold stepI at h
    split at h
    all_goals first
      | exact sn_table A hd w h hr k
      | exact sn_look A hd w h hr k
      | (cases h; done)
      | (obtain ⟨rfl, h⟩ := gd_eq h)
    all_goals first
      | exact sn_aload A hd w h hr k
      | exact sn_aload_n A hd w h hr k
      | exact sn_iload A hd w h hr k
      | exact sn_iload_n A hd w h hr k
      | exact sn_lload A hd w h hr k
      | exact sn_lload_n A hd w h hr k
      | exact sn_astore A hd w h hr k
      | exact sn_astore_n A hd w h hr k
      | exact sn_istore A hd w h hr k
      | exact sn_istore_n A hd w h hr k
      | exact sn_lstore A hd w h hr k
      | exact sn_lstore_n A hd w h hr k
      | exact sn_iinc A hd w h hr k
      | exact sn_iconst A hd w h hr k
      | exact sn_bipush A hd w h hr k
      | exact sn_sipush A hd w h hr k
      | exact sn_lconst A hd w h hr k
      | exact sn_iadd A hd w h hr k
      | exact sn_isub A hd w h hr k
      | exact sn_imul A hd w h hr k
      | exact sn_iand A hd w h hr k
      | exact sn_ior A hd w h hr k
      | exact sn_ixor A hd w h hr k
      | exact sn_ishl A hd w h hr k
      | exact sn_ishr A hd w h hr k
      | exact sn_iushr A hd w h hr k
      | exact sn_idiv A hd w h hr k
      | exact sn_irem A hd w h hr k
      | exact sn_ineg A hd w h hr k
      | exact sn_i2b A hd w h hr k
      | exact sn_i2c A hd w h hr k
      | exact sn_ladd A hd w h hr k
      | exact sn_lmul A hd w h hr k
      | exact sn_ldiv A hd w h hr k
      | exact sn_lrem A hd w h hr k
      | exact sn_lshl A hd w h hr k
      | exact sn_i2l A hd w h hr k
      | exact sn_lcmp A hd w h hr k
      | exact sn_dup A hd w h hr k
      | exact sn_dup2 A hd w h hr k
      | exact sn_pop A hd w h hr k
      | exact sn_icmp_eq A hd w h hr k
      | exact sn_icmp_ne A hd w h hr k
      | exact sn_icmp_lt A hd w h hr k
      | exact sn_icmp_ge A hd w h hr k
      | exact sn_icmp_gt A hd w h hr k
      | exact sn_icmp_le A hd w h hr k
      | exact sn_if_eq A hd w h hr k
      | exact sn_if_ne A hd w h hr k
      | exact sn_if_lt A hd w h hr k
      | exact sn_if_ge A hd w h hr k
      | exact sn_if_gt A hd w h hr k
      | exact sn_if_le A hd w h hr k
      | exact sn_ifnull A hd w h hr k
      | exact sn_goto A hd w h hr k
      | exact sn_get A hd w h hr k
      | exact sn_put A hd w h hr k
      | exact sn_alen A hd w h hr k
      | exact sn_iald A hd w h hr k
      | exact sn_iast A hd w h hr k
      | exact sn_bald A hd w h hr k
      | exact sn_bast A hd w h hr k
      | exact sn_lald A hd w h hr k
      | exact sn_last A hd w h hr k
      | exact sn_aald A hd w h hr k
      | exact sn_aast A hd w h hr k
      | exact sn_ldc2 A hd w h hr k
      | exact sn_virt A hK hSS hSX hz13 hCS hCP hd w h hr k
      | exact sn_spec A hK hCS hCP hd w h hr k
      | exact sn_stat A hK hCS hCP hd w h hr k
      | exact sn_ldc A hSS (Or.inl ⟨hd, rfl⟩) h k
      | exact sn_ldc A hSS (Or.inr ⟨hd, rfl⟩) h k
      | exact sn_newz A hd w h hr k
      | exact sn_arrP A hd (Or.inl ⟨rfl, rfl⟩) w h hr k
      | exact sn_arrP A hd (Or.inr (Or.inl ⟨rfl, rfl⟩)) w h hr k
      | exact sn_arrP A hd (Or.inr (Or.inr ⟨rfl, rfl⟩)) w h hr k
      | (split at h
         · next hal => exact sn_arrA A hd hal w h hr k
         · cases h)
      | (unfold zIret at h; split at h; split at h; split at h; cases h; cases h; cases h; cases h; done)
      | (unfold zLret at h; split at h; split at h; cases h; cases h; cases h; done)
      | (unfold zVret at h; split at h; split at h; cases h; cases h; cases h; done)
  · cases h
end SndY
