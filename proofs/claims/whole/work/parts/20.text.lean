/-! texts: String.length, String.charAt on the String constants -/
theorem z_recv {q : Nat} {A : Nat → Prop} {s : State} {H : Heap} (h : va_O "java/lang/String" q A s H) : ∃ cell : Cell, H[q]? = some cell ∧ cell.vm.isStatics = false ∧ s.vm.findClass "java/lang/String" = some cell.cls := by
  obtain ⟨cell, h1, h2, h3, -⟩ := h
  exact ⟨cell, h1, h2, h3⟩
def Qs (w : Option Value) : Array Value → State → Outcome → State → Prop := fun _ st o t => o = .returned w ∧ t.heap = st.heap
def PcS (E : EE) (a : List Value) : Array Value → State → Prop := fun v U => v = a.toArray ∧ (∀ q, q < eB E → U.heap[q]? = (eH E)[q]?) ∧ (eH E).size = eB E ∧ KX E U
theorem ps_blind (E : EE) (a : List Value) : FrameBlind (PcS E a) := fun _ U _ _ h => ⟨h.1, h.2.1, h.2.2.1, kw_KX E U _ (State.WarmedH.refl U) h.2.2.2⟩
theorem call_same {p : Program} {l : Launch} {e : Env} {R : Room} {s : State} {m : MethodId} {args : Array Value} {below : List Frame} {meth : Method} {c : Code} {H : Heap} {locs : List Loc} {cells slots : Nat} {Q : State → Prop} {pc : Nat} {ls : Array Slot} {rest st0 : List Value} {a : Array Value} {w : Option Value}
    (hr : va_Run p l e R s m args below meth c H locs cells slots 0 0 (F0 m pc ls st0) rest (Qs w a) (fun _ => False)) (kk : W p l e R s m args below meth c H locs cells slots Q (F0 m (pc + 3) ls (w.toList ++ rest))) : W p l e R s m args below meth c H locs cells slots Q (F0 m pc ls st0) := by
  intro T hT X
  obtain ⟨v, st₀, t, T', L, h0, X', hL, e1, -, ⟨hv, hh⟩, st⟩ := hr T hT X
  cases hv
  obtain ⟨t2, a1, b1⟩ := kk T' (by rw [e1, hh, h0]) (Stand.forget X' (fun q h => (hL q h).elim))
  exact ⟨t2, st t2 a1, b1⟩
def sy_len : MethodName := ⟨"java/lang/String", "length", "()I"⟩
def sw_len : List Cond := .code sy_len prog_23_method_54_code 1 (some .int) :: gt
theorem sg_len : Cond.code sy_len prog_23_method_54_code 1 (some .int) ∈ gt ∧ Cond.initialized sy_len.cls ∈ gt := ⟨(mt3 184 rfl rfl), (mt1 18 rfl rfl)⟩
theorem sd_len : sy_len.cls ≠ "java/lang/invoke/MethodHandle" ∧ sy_len.cls ≠ "java/lang/invoke/VarHandle" ∧ (parseMethodDescriptor sy_len.desc).map (fun d => d.parameters.length) = some 0 := by decide +kernel
theorem sin_len : GoodIn gt sw_len := fun w hw => by
  rcases List.mem_cons.mp hw with rfl | hw
  · exact ⟨sg_len.1, gt_good _ sg_len.1⟩
  · exact ⟨hw, gt_good w hw⟩
theorem si_len : Cond.instanceMethod sy_len ∈ gt ∧ Cond.selects "java/lang/String" sy_len sy_len ∈ gt := ⟨(mt3 182 rfl rfl), (mt3 183 rfl rfl)⟩
theorem ds_len_0 : decode prog_23_method_54_code 0 = .ok (.aload_n 0, 1) := by decide +kernel
theorem ds_len_1 : decode prog_23_method_54_code 1 = .ok (.getfield 9, 3) := by decide +kernel
theorem ds_len_4 : decode prog_23_method_54_code 4 = .ok (.arraylength, 1) := by decide +kernel
theorem ds_len_5 : decode prog_23_method_54_code 5 = .ok (.aload_n 0, 1) := by decide +kernel
theorem ds_len_6 : decode prog_23_method_54_code 6 = .ok (.invokevirtual 335, 3) := by decide +kernel
theorem ds_len_9 : decode prog_23_method_54_code 9 = .ok (.ishr, 1) := by decide +kernel
theorem ds_len_10 : decode prog_23_method_54_code 10 = .ok (.ireturn, 1) := by decide +kernel
def sy_cod : MethodName := ⟨"java/lang/String", "coder", "()B"⟩
def sw_cod : List Cond := .code sy_cod prog_23_method_152_code 1 (some .byte) :: gt
theorem sg_cod : Cond.code sy_cod prog_23_method_152_code 1 (some .byte) ∈ gt ∧ Cond.initialized sy_cod.cls ∈ gt := ⟨(mt3 188 rfl rfl), (mt1 18 rfl rfl)⟩
theorem sd_cod : sy_cod.cls ≠ "java/lang/invoke/MethodHandle" ∧ sy_cod.cls ≠ "java/lang/invoke/VarHandle" ∧ (parseMethodDescriptor sy_cod.desc).map (fun d => d.parameters.length) = some 0 := by decide +kernel
theorem sin_cod : GoodIn gt sw_cod := fun w hw => by
  rcases List.mem_cons.mp hw with rfl | hw
  · exact ⟨sg_cod.1, gt_good _ sg_cod.1⟩
  · exact ⟨hw, gt_good w hw⟩
theorem si_cod : Cond.instanceMethod sy_cod ∈ gt ∧ Cond.selects "java/lang/String" sy_cod sy_cod ∈ gt := ⟨(mt3 186 rfl rfl), (mt3 187 rfl rfl)⟩
theorem ds_cod_0 : decode prog_23_method_152_code 0 = .ok (.getstatic 38, 3) := by decide +kernel
theorem ds_cod_3 : decode prog_23_method_152_code 3 = .ok (.ifCond .eq 10, 3) := by decide +kernel
theorem ds_cod_6 : decode prog_23_method_152_code 6 = .ok (.aload_n 0, 1) := by decide +kernel
theorem ds_cod_7 : decode prog_23_method_152_code 7 = .ok (.getfield 15, 3) := by decide +kernel
theorem ds_cod_10 : decode prog_23_method_152_code 10 = .ok (.goto 4, 3) := by decide +kernel
theorem ds_cod_13 : decode prog_23_method_152_code 13 = .ok (.iconst 1, 1) := by decide +kernel
theorem ds_cod_14 : decode prog_23_method_152_code 14 = .ok (.ireturn, 1) := by decide +kernel
def sy_chr : MethodName := ⟨"java/lang/String", "charAt", "(I)C"⟩
def sw_chr : List Cond := .code sy_chr prog_23_method_56_code 2 (some .char) :: gt
theorem sg_chr : Cond.code sy_chr prog_23_method_56_code 2 (some .char) ∈ gt ∧ Cond.initialized sy_chr.cls ∈ gt := ⟨(mt3 194 rfl rfl), (mt1 18 rfl rfl)⟩
theorem sd_chr : sy_chr.cls ≠ "java/lang/invoke/MethodHandle" ∧ sy_chr.cls ≠ "java/lang/invoke/VarHandle" ∧ (parseMethodDescriptor sy_chr.desc).map (fun d => d.parameters.length) = some 1 := by decide +kernel
theorem sin_chr : GoodIn gt sw_chr := fun w hw => by
  rcases List.mem_cons.mp hw with rfl | hw
  · exact ⟨sg_chr.1, gt_good _ sg_chr.1⟩
  · exact ⟨hw, gt_good w hw⟩
theorem si_chr : Cond.instanceMethod sy_chr ∈ gt ∧ Cond.selects "java/lang/String" sy_chr sy_chr ∈ gt := ⟨(mt3 192 rfl rfl), (mt3 193 rfl rfl)⟩
theorem ds_chr_0 : decode prog_23_method_56_code 0 = .ok (.aload_n 0, 1) := by decide +kernel
theorem ds_chr_1 : decode prog_23_method_56_code 1 = .ok (.invokevirtual 492, 3) := by decide +kernel
theorem ds_chr_4 : decode prog_23_method_56_code 4 = .ok (.ifCond .eq 12, 3) := by decide +kernel
theorem ds_chr_7 : decode prog_23_method_56_code 7 = .ok (.aload_n 0, 1) := by decide +kernel
theorem ds_chr_8 : decode prog_23_method_56_code 8 = .ok (.getfield 9, 3) := by decide +kernel
theorem ds_chr_11 : decode prog_23_method_56_code 11 = .ok (.iload_n 1, 1) := by decide +kernel
theorem ds_chr_12 : decode prog_23_method_56_code 12 = .ok (.invokestatic 495, 3) := by decide +kernel
theorem ds_chr_15 : decode prog_23_method_56_code 15 = .ok (.ireturn, 1) := by decide +kernel
theorem ds_chr_16 : decode prog_23_method_56_code 16 = .ok (.aload_n 0, 1) := by decide +kernel
theorem ds_chr_17 : decode prog_23_method_56_code 17 = .ok (.getfield 9, 3) := by decide +kernel
theorem ds_chr_20 : decode prog_23_method_56_code 20 = .ok (.iload_n 1, 1) := by decide +kernel
theorem ds_chr_21 : decode prog_23_method_56_code 21 = .ok (.invokestatic 498, 3) := by decide +kernel
theorem ds_chr_24 : decode prog_23_method_56_code 24 = .ok (.ireturn, 1) := by decide +kernel
def sy_lat : MethodName := ⟨"java/lang/String", "isLatin1", "()Z"⟩
def sw_lat : List Cond := .code sy_lat prog_23_method_154_code 1 (some .boolean) :: gt
theorem sg_lat : Cond.code sy_lat prog_23_method_154_code 1 (some .boolean) ∈ gt ∧ Cond.initialized sy_lat.cls ∈ gt := ⟨(mt3 198 rfl rfl), (mt1 18 rfl rfl)⟩
theorem sd_lat : sy_lat.cls ≠ "java/lang/invoke/MethodHandle" ∧ sy_lat.cls ≠ "java/lang/invoke/VarHandle" ∧ (parseMethodDescriptor sy_lat.desc).map (fun d => d.parameters.length) = some 0 := by decide +kernel
theorem sin_lat : GoodIn gt sw_lat := fun w hw => by
  rcases List.mem_cons.mp hw with rfl | hw
  · exact ⟨sg_lat.1, gt_good _ sg_lat.1⟩
  · exact ⟨hw, gt_good w hw⟩
theorem si_lat : Cond.instanceMethod sy_lat ∈ gt ∧ Cond.selects "java/lang/String" sy_lat sy_lat ∈ gt := ⟨(mt3 196 rfl rfl), (mt3 197 rfl rfl)⟩
theorem ds_lat_0 : decode prog_23_method_154_code 0 = .ok (.getstatic 38, 3) := by decide +kernel
theorem ds_lat_3 : decode prog_23_method_154_code 3 = .ok (.ifCond .eq 14, 3) := by decide +kernel
theorem ds_lat_6 : decode prog_23_method_154_code 6 = .ok (.aload_n 0, 1) := by decide +kernel
theorem ds_lat_7 : decode prog_23_method_154_code 7 = .ok (.getfield 15, 3) := by decide +kernel
theorem ds_lat_10 : decode prog_23_method_154_code 10 = .ok (.ifCond .ne 7, 3) := by decide +kernel
theorem ds_lat_13 : decode prog_23_method_154_code 13 = .ok (.iconst 1, 1) := by decide +kernel
theorem ds_lat_14 : decode prog_23_method_154_code 14 = .ok (.goto 4, 3) := by decide +kernel
theorem ds_lat_17 : decode prog_23_method_154_code 17 = .ok (.iconst 0, 1) := by decide +kernel
theorem ds_lat_18 : decode prog_23_method_154_code 18 = .ok (.ireturn, 1) := by decide +kernel
def sy_lch : MethodName := ⟨"java/lang/StringLatin1", "charAt", "([BI)C"⟩
def sw_lch : List Cond := .code sy_lch prog_24_method_2_code 2 (some .char) :: gt
theorem sg_lch : Cond.code sy_lch prog_24_method_2_code 2 (some .char) ∈ gt ∧ Cond.initialized sy_lch.cls ∈ gt := ⟨(mt3 201 rfl rfl), (mt1 19 rfl rfl)⟩
theorem sd_lch : sy_lch.cls ≠ "java/lang/invoke/MethodHandle" ∧ sy_lch.cls ≠ "java/lang/invoke/VarHandle" ∧ (parseMethodDescriptor sy_lch.desc).map (fun d => d.parameters.length) = some 2 := by decide +kernel
theorem sin_lch : GoodIn gt sw_lch := fun w hw => by
  rcases List.mem_cons.mp hw with rfl | hw
  · exact ⟨sg_lch.1, gt_good _ sg_lch.1⟩
  · exact ⟨hw, gt_good w hw⟩
theorem ss_lch : Cond.static sy_lch ∈ gt := (mt3 200 rfl rfl)
theorem ds_lch_0 : decode prog_24_method_2_code 0 = .ok (.iload_n 1, 1) := by decide +kernel
theorem ds_lch_1 : decode prog_24_method_2_code 1 = .ok (.aload_n 0, 1) := by decide +kernel
theorem ds_lch_2 : decode prog_24_method_2_code 2 = .ok (.arraylength, 1) := by decide +kernel
theorem ds_lch_3 : decode prog_24_method_2_code 3 = .ok (.invokestatic 9, 3) := by decide +kernel
theorem ds_lch_6 : decode prog_24_method_2_code 6 = .ok (.aload_n 0, 1) := by decide +kernel
theorem ds_lch_7 : decode prog_24_method_2_code 7 = .ok (.iload_n 1, 1) := by decide +kernel
theorem ds_lch_8 : decode prog_24_method_2_code 8 = .ok (.baload, 1) := by decide +kernel
theorem ds_lch_9 : decode prog_24_method_2_code 9 = .ok (.sipush 255, 3) := by decide +kernel
theorem ds_lch_12 : decode prog_24_method_2_code 12 = .ok (.iand, 1) := by decide +kernel
theorem ds_lch_13 : decode prog_24_method_2_code 13 = .ok (.i2c, 1) := by decide +kernel
theorem ds_lch_14 : decode prog_24_method_2_code 14 = .ok (.ireturn, 1) := by decide +kernel
def sy_chk : MethodName := ⟨"java/lang/String", "checkIndex", "(II)V"⟩
def sw_chk : List Cond := .code sy_chk prog_23_method_155_code 2 (none) :: gt
theorem sg_chk : Cond.code sy_chk prog_23_method_155_code 2 (none) ∈ gt ∧ Cond.initialized sy_chk.cls ∈ gt := ⟨(mt3 204 rfl rfl), (mt1 18 rfl rfl)⟩
theorem sd_chk : sy_chk.cls ≠ "java/lang/invoke/MethodHandle" ∧ sy_chk.cls ≠ "java/lang/invoke/VarHandle" ∧ (parseMethodDescriptor sy_chk.desc).map (fun d => d.parameters.length) = some 2 := by decide +kernel
theorem sin_chk : GoodIn gt sw_chk := fun w hw => by
  rcases List.mem_cons.mp hw with rfl | hw
  · exact ⟨sg_chk.1, gt_good _ sg_chk.1⟩
  · exact ⟨hw, gt_good w hw⟩
theorem ss_chk : Cond.static sy_chk ∈ gt := (mt3 203 rfl rfl)
theorem ds_chk_0 : decode prog_23_method_155_code 0 = .ok (.iload_n 0, 1) := by decide +kernel
theorem ds_chk_1 : decode prog_23_method_155_code 1 = .ok (.iload_n 1, 1) := by decide +kernel
theorem ds_chk_2 : decode prog_23_method_155_code 2 = .ok (.getstatic 1053, 3) := by decide +kernel
theorem ds_chk_5 : decode prog_23_method_155_code 5 = .ok (.invokestatic 1059, 3) := by decide +kernel
theorem ds_chk_8 : decode prog_23_method_155_code 8 = .ok (.pop, 1) := by decide +kernel
theorem ds_chk_9 : decode prog_23_method_155_code 9 = .ok (.return_, 1) := by decide +kernel
def sy_pre : MethodName := ⟨"jdk/internal/util/Preconditions", "checkIndex", "(IILjava/util/function/BiFunction;)I"⟩
def sw_pre : List Cond := .code sy_pre prog_32_method_11_code 3 (some .int) :: gt
theorem sg_pre : Cond.code sy_pre prog_32_method_11_code 3 (some .int) ∈ gt ∧ Cond.initialized sy_pre.cls ∈ gt := ⟨(mt3 209 rfl rfl), (mt1 20 rfl rfl)⟩
theorem sd_pre : sy_pre.cls ≠ "java/lang/invoke/MethodHandle" ∧ sy_pre.cls ≠ "java/lang/invoke/VarHandle" ∧ (parseMethodDescriptor sy_pre.desc).map (fun d => d.parameters.length) = some 3 := by decide +kernel
theorem sin_pre : GoodIn gt sw_pre := fun w hw => by
  rcases List.mem_cons.mp hw with rfl | hw
  · exact ⟨sg_pre.1, gt_good _ sg_pre.1⟩
  · exact ⟨hw, gt_good w hw⟩
theorem ss_pre : Cond.static sy_pre ∈ gt := (mt3 208 rfl rfl)
theorem ds_pre_0 : decode prog_32_method_11_code 0 = .ok (.iload_n 0, 1) := by decide +kernel
theorem ds_pre_1 : decode prog_32_method_11_code 1 = .ok (.ifCond .lt 8, 3) := by decide +kernel
theorem ds_pre_4 : decode prog_32_method_11_code 4 = .ok (.iload_n 0, 1) := by decide +kernel
theorem ds_pre_5 : decode prog_32_method_11_code 5 = .ok (.iload_n 1, 1) := by decide +kernel
theorem ds_pre_6 : decode prog_32_method_11_code 6 = .ok (.if_icmp .lt 10, 3) := by decide +kernel
theorem ds_pre_9 : decode prog_32_method_11_code 9 = .ok (.aload_n 2, 1) := by decide +kernel
theorem ds_pre_10 : decode prog_32_method_11_code 10 = .ok (.iload_n 0, 1) := by decide +kernel
theorem ds_pre_11 : decode prog_32_method_11_code 11 = .ok (.iload_n 1, 1) := by decide +kernel
theorem ds_pre_12 : decode prog_32_method_11_code 12 = .ok (.invokestatic 95, 3) := by decide +kernel
theorem ds_pre_16 : decode prog_32_method_11_code 16 = .ok (.iload_n 0, 1) := by decide +kernel
theorem ds_pre_17 : decode prog_32_method_11_code 17 = .ok (.ireturn, 1) := by decide +kernel
theorem sc_cod {E : EE} {l : Launch} {i : Nat} (hi : i < 27)  : Met l sy_cod sw_cod (rmz 1 0 0) (PcS E [.ref (eA E i)]) (Qs (some (.int 0))) 0 0 (fun _ => False) := by
  refine Met.ofW (cc := prog_23_method_152_code) (maxL := 1) (ret := some .byte) (by decide +kernel) rfl ?_
  intro p e s m args below meth c s₁ B hml hv
  obtain ⟨rfl, hold, hsz, hK⟩ := hv
  have hx := B.exec
  have hb := B.bytes
  have hr := B.returns
  have hts : ∀ w ∈ gt, w.before _ s = true := fun w hw => atoms_spec (ws := sw_cod) B.pre w (List.mem_cons_of_mem _ hw)
  have hown : s.vm.findClass "java/lang/String" = some m.cls := findClass_of_methodNamed B.named
  have hlocks := B.notSynchronized
  have hkp : ∀ a : Nat, a < (eH E).size → ¬ frz E a → s.heap[a]? = (eH E)[a]? := fun a ha _ => hold a (by rw [← hsz]; exact ha)
  have hS : va_S (frz E) s.heap s.heap [] := va_S.rf
  have hl := lv_entry ([.ref (eA E i)]) (n := 1) (Nat.le_of_ble_eq_true rfl)
  rw [lg_entry_eq]
  generalize (lg_sl ([.ref (eA E i)]) ++ List.replicate (1 - (lg_sl ([.ref (eA E i)])).length) Slot.unset).toArray = ls at hl ⊢
  have hl : lv_has ls 1 [(0, .ref (eA E i))] := lh_sub hl (fun q hq => by first | exact hq | (simp only [List.mem_cons, List.not_mem_nil, or_false] at hq ⊢; rcases hq with rfl | rfl <;> simp [lv_args, Value.category]))
  obtain ⟨aV, hV⟩ := hK.2.2.2.2.1
  have hC := ((hV i hi).2.1).kept hkp
  refine va_gets hx hb (hK.2.2.2.2.2.1.kept hkp) hS hown (hts _ (mt3 189 rfl rfl)) (fun _ z => z) ds_cod_0 ?_
  refine lv_if_eq (tgt := 13) hx hb ds_cod_3 (by decide) (fun z => absurd z (by decide)) (fun _ => ?_)
  refine lv_aload_n hx hb ds_cod_6 rfl (lv_at hl 0 rfl) ?_
  refine vk_getf hx hb hC hS hown (hts _ (mt9 118 rfl rfl)) (fun _ z => z) ds_cod_7 ?_
  refine lv_goto (tgt := 14) hx hb ds_cod_10 (by decide) ?_
  exact W.zret hx hb hr (by decide) (fun t ht _ => ⟨rfl, ht⟩) (fun _ z => by cases z) ds_cod_14
theorem sc_lat {E : EE} {l : Launch} {i : Nat} (hi : i < 27)  : Met l sy_lat sw_lat (rmz 1 0 0) (PcS E [.ref (eA E i)]) (Qs (some (.int 1))) 0 0 (fun _ => False) := by
  refine Met.ofW (cc := prog_23_method_154_code) (maxL := 1) (ret := some .boolean) (by decide +kernel) rfl ?_
  intro p e s m args below meth c s₁ B hml hv
  obtain ⟨rfl, hold, hsz, hK⟩ := hv
  have hx := B.exec
  have hb := B.bytes
  have hr := B.returns
  have hts : ∀ w ∈ gt, w.before _ s = true := fun w hw => atoms_spec (ws := sw_lat) B.pre w (List.mem_cons_of_mem _ hw)
  have hown : s.vm.findClass "java/lang/String" = some m.cls := findClass_of_methodNamed B.named
  have hlocks := B.notSynchronized
  have hkp : ∀ a : Nat, a < (eH E).size → ¬ frz E a → s.heap[a]? = (eH E)[a]? := fun a ha _ => hold a (by rw [← hsz]; exact ha)
  have hS : va_S (frz E) s.heap s.heap [] := va_S.rf
  have hl := lv_entry ([.ref (eA E i)]) (n := 1) (Nat.le_of_ble_eq_true rfl)
  rw [lg_entry_eq]
  generalize (lg_sl ([.ref (eA E i)]) ++ List.replicate (1 - (lg_sl ([.ref (eA E i)])).length) Slot.unset).toArray = ls at hl ⊢
  have hl : lv_has ls 1 [(0, .ref (eA E i))] := lh_sub hl (fun q hq => by first | exact hq | (simp only [List.mem_cons, List.not_mem_nil, or_false] at hq ⊢; rcases hq with rfl | rfl <;> simp [lv_args, Value.category]))
  obtain ⟨aV, hV⟩ := hK.2.2.2.2.1
  have hC := ((hV i hi).2.1).kept hkp
  refine va_gets hx hb (hK.2.2.2.2.2.1.kept hkp) hS hown (hts _ (mt3 189 rfl rfl)) (fun _ z => z) ds_lat_0 ?_
  refine lv_if_eq (tgt := 17) hx hb ds_lat_3 (by decide) (fun z => absurd z (by decide)) (fun _ => ?_)
  refine lv_aload_n hx hb ds_lat_6 rfl (lv_at hl 0 rfl) ?_
  refine vk_getf hx hb hC hS hown (hts _ (mt9 118 rfl rfl)) (fun _ z => z) ds_lat_7 ?_
  refine lv_if_ne (tgt := 17) hx hb ds_lat_10 (by decide) (fun z => absurd rfl z) (fun _ => ?_)
  refine lv_iconst (v := 1) hx hb ds_lat_13 (by decide) ?_
  refine lv_goto (tgt := 18) hx hb ds_lat_14 (by decide) ?_
  exact W.zret hx hb hr (by decide) (fun t ht _ => ⟨rfl, ht⟩) (fun _ z => by cases z) ds_lat_18
theorem slen_i {i : Nat} (hi : i < 27) : slen i = slen i ∧ slen i < 2 ^ 31 ∧ (∀ j, j < slen i → sbyt i j &&& 255 = sbyt i j ∧ ((sbyt i j).toUInt32 % 65536).toInt32 = sbyt i j ∧ narrow .char (.int (sbyt i j)) = .int (sbyt i j)) ∧ Int32.ofNat (slen i) >>> ((0 : Int32) &&& 31) = Int32.ofNat (slen i) := by
  revert i
  decide +kernel
theorem sc_len {E : EE} {l : Launch} {i : Nat} (hi : i < 27)  : Met l sy_len sw_len (rmz 2 0 0) (PcS E [.ref (eA E i)]) (Qs (some (.int (Int32.ofNat (slen i))))) 0 0 (fun _ => False) := by
  refine Met.ofW (cc := prog_23_method_54_code) (maxL := 1) (ret := some .int) (by decide +kernel) rfl ?_
  intro p e s m args below meth c s₁ B hml hv
  obtain ⟨rfl, hold, hsz, hK⟩ := hv
  have hx := B.exec
  have hb := B.bytes
  have hr := B.returns
  have hts : ∀ w ∈ gt, w.before _ s = true := fun w hw => atoms_spec (ws := sw_len) B.pre w (List.mem_cons_of_mem _ hw)
  have hown : s.vm.findClass "java/lang/String" = some m.cls := findClass_of_methodNamed B.named
  have hlocks := B.notSynchronized
  have hkp : ∀ a : Nat, a < (eH E).size → ¬ frz E a → s.heap[a]? = (eH E)[a]? := fun a ha _ => hold a (by rw [← hsz]; exact ha)
  have hS : va_S (frz E) s.heap s.heap [] := va_S.rf
  have hl := lv_entry ([.ref (eA E i)]) (n := 1) (Nat.le_of_ble_eq_true rfl)
  rw [lg_entry_eq]
  generalize (lg_sl ([.ref (eA E i)]) ++ List.replicate (1 - (lg_sl ([.ref (eA E i)])).length) Slot.unset).toArray = ls at hl ⊢
  have hl : lv_has ls 1 [(0, .ref (eA E i))] := lh_sub hl (fun q hq => by first | exact hq | (simp only [List.mem_cons, List.not_mem_nil, or_false] at hq ⊢; rcases hq with rfl | rfl <;> simp [lv_args, Value.category]))
  obtain ⟨aV, hV⟩ := hK.2.2.2.2.1
  have hC := ((hV i hi).2.2.1).kept hkp
  have hT := ((hV i hi).2.2.2).kept hkp
  refine lv_aload_n hx hb ds_len_0 rfl (lv_at hl 0 rfl) ?_
  refine vk_getf hx hb hC hS hown (hts _ (mt9 117 rfl rfl)) (fun _ z => z) ds_len_1 ?_
  refine va_tlen hx hb hT hS rfl ds_len_4 ?_
  refine lv_aload_n hx hb ds_len_5 rfl (lv_at hl 0 rfl) ?_
  refine call_same (a := #[.ref (eA E i)]) (va_runV (C := "java/lang/String") (b := eA E i) (As := []) (rest := [.int (Int32.ofNat (slen i))]) ⟨hx, hb, hml, hown, hts⟩ (sc_cod (E := E) hi) ⟨callB_of 0 hts sin_cod rfl rfl rfl (hts _ sg_cod.2) (hts _ (mt3 185 rfl rfl)) sd_cod ⟨by decide, by decide⟩, hts _ si_cod.1, hts _ si_cod.2⟩ ⟨ps_blind E _, z_recv ((hV i hi).1.kept hkp), fun U hU hW => ⟨rfl, fun q hq => by rw [hU]; exact hold q hq, hsz, kw_KX E s U hW hK⟩⟩ rfl rfl hl.1 rfl (lv_room (Nat.le_of_ble_eq_true rfl)) ds_len_6 ⟨by decide, by decide⟩) ?_
  refine lv_ishr hx hb ds_len_9 ?_
  rw [(slen_i hi).2.2.2]
  exact W.iret hx hb hr (fun t ht _ => ⟨rfl, ht⟩) (fun _ z => by cases z) ds_len_10
theorem sc_pre1 {E : EE} {l : Launch} {k n : Int32} (h0 : ¬ k < 0) (hn : k < n)  : Met l sy_pre sw_pre (rmz 1 0 0) (PcS E [.int k, .int n, .null]) (Qs (some (.int k))) 0 0 (fun _ => False) := by
  refine Met.ofW (cc := prog_32_method_11_code) (maxL := 3) (ret := some .int) (by decide +kernel) rfl ?_
  intro p e s m args below meth c s₁ B hml hv
  obtain ⟨rfl, hold, hsz, hK⟩ := hv
  have hx := B.exec
  have hb := B.bytes
  have hr := B.returns
  have hts : ∀ w ∈ gt, w.before _ s = true := fun w hw => atoms_spec (ws := sw_pre) B.pre w (List.mem_cons_of_mem _ hw)
  have hown : s.vm.findClass "jdk/internal/util/Preconditions" = some m.cls := findClass_of_methodNamed B.named
  have hlocks := B.notSynchronized
  have hkp : ∀ a : Nat, a < (eH E).size → ¬ frz E a → s.heap[a]? = (eH E)[a]? := fun a ha _ => hold a (by rw [← hsz]; exact ha)
  have hS : va_S (frz E) s.heap s.heap [] := va_S.rf
  have hl := lv_entry ([.int k, .int n, .null]) (n := 3) (Nat.le_of_ble_eq_true rfl)
  rw [lg_entry_eq]
  generalize (lg_sl ([.int k, .int n, .null]) ++ List.replicate (3 - (lg_sl ([.int k, .int n, .null])).length) Slot.unset).toArray = ls at hl ⊢
  have hl : lv_has ls 3 [(0, .int k), (1, .int n)] := lh_sub hl (fun q hq => by first | exact hq | (simp only [List.mem_cons, List.not_mem_nil, or_false] at hq ⊢; rcases hq with rfl | rfl <;> simp [lv_args, Value.category]))
  refine lv_iload_n hx hb ds_pre_0 rfl (lv_at hl 0 rfl) ?_
  refine lv_if_lt (tgt := 9) hx hb ds_pre_1 (by decide) (fun z => absurd z h0) (fun _ => ?_)
  refine lv_iload_n hx hb ds_pre_4 rfl (lv_at hl 0 rfl) ?_
  refine lv_iload_n hx hb ds_pre_5 rfl (lv_at hl 1 rfl) ?_
  refine lv_icmp_lt (tgt := 16) hx hb ds_pre_6 (by decide) (fun _ => ?_) (fun z => absurd hn z)
  refine lv_iload_n hx hb ds_pre_16 rfl (lv_at hl 0 rfl) ?_
  exact W.iret hx hb hr (fun t ht _ => ⟨rfl, ht⟩) (fun _ z => by cases z) ds_pre_17
theorem sc_pre2 {E : EE} {l : Launch} {k n : Int32} {r : Nat} (h0 : ¬ k < 0) (hn : k < n)  : Met l sy_pre sw_pre (rmz 1 0 0) (PcS E [.int k, .int n, .ref r]) (Qs (some (.int k))) 0 0 (fun _ => False) := by
  refine Met.ofW (cc := prog_32_method_11_code) (maxL := 3) (ret := some .int) (by decide +kernel) rfl ?_
  intro p e s m args below meth c s₁ B hml hv
  obtain ⟨rfl, hold, hsz, hK⟩ := hv
  have hx := B.exec
  have hb := B.bytes
  have hr := B.returns
  have hts : ∀ w ∈ gt, w.before _ s = true := fun w hw => atoms_spec (ws := sw_pre) B.pre w (List.mem_cons_of_mem _ hw)
  have hown : s.vm.findClass "jdk/internal/util/Preconditions" = some m.cls := findClass_of_methodNamed B.named
  have hlocks := B.notSynchronized
  have hkp : ∀ a : Nat, a < (eH E).size → ¬ frz E a → s.heap[a]? = (eH E)[a]? := fun a ha _ => hold a (by rw [← hsz]; exact ha)
  have hS : va_S (frz E) s.heap s.heap [] := va_S.rf
  have hl := lv_entry ([.int k, .int n, .ref r]) (n := 3) (Nat.le_of_ble_eq_true rfl)
  rw [lg_entry_eq]
  generalize (lg_sl ([.int k, .int n, .ref r]) ++ List.replicate (3 - (lg_sl ([.int k, .int n, .ref r])).length) Slot.unset).toArray = ls at hl ⊢
  have hl : lv_has ls 3 [(0, .int k), (1, .int n)] := lh_sub hl (fun q hq => by first | exact hq | (simp only [List.mem_cons, List.not_mem_nil, or_false] at hq ⊢; rcases hq with rfl | rfl <;> simp [lv_args, Value.category]))
  refine lv_iload_n hx hb ds_pre_0 rfl (lv_at hl 0 rfl) ?_
  refine lv_if_lt (tgt := 9) hx hb ds_pre_1 (by decide) (fun z => absurd z h0) (fun _ => ?_)
  refine lv_iload_n hx hb ds_pre_4 rfl (lv_at hl 0 rfl) ?_
  refine lv_iload_n hx hb ds_pre_5 rfl (lv_at hl 1 rfl) ?_
  refine lv_icmp_lt (tgt := 16) hx hb ds_pre_6 (by decide) (fun _ => ?_) (fun z => absurd hn z)
  refine lv_iload_n hx hb ds_pre_16 rfl (lv_at hl 0 rfl) ?_
  exact W.iret hx hb hr (fun t ht _ => ⟨rfl, ht⟩) (fun _ z => by cases z) ds_pre_17
theorem sc_pre {E : EE} {l : Launch} {k n : Int32} {r : Value} (hr9 : r = .null ∨ ∃ a, r = .ref a) (h0 : ¬ k < 0) (hn : k < n) : Met l sy_pre sw_pre (rmz 1 0 0) (PcS E [.int k, .int n, r]) (Qs (some (.int k))) 0 0 (fun _ => False) := by
  rcases hr9 with rfl | ⟨a, rfl⟩
  · exact sc_pre1 h0 hn
  · exact sc_pre2 h0 hn
theorem sc_chk {E : EE} {l : Launch} {k n : Int32} (h0 : ¬ k < 0) (hn : k < n)  : Met l sy_chk sw_chk (rmz 2 0 0) (PcS E [.int k, .int n]) (Qs (none)) 0 0 (fun _ => False) := by
  refine Met.ofW (cc := prog_23_method_155_code) (maxL := 2) (ret := none) (by decide +kernel) rfl ?_
  intro p e s m args below meth c s₁ B hml hv
  obtain ⟨rfl, hold, hsz, hK⟩ := hv
  have hx := B.exec
  have hb := B.bytes
  have hr := B.returns
  have hts : ∀ w ∈ gt, w.before _ s = true := fun w hw => atoms_spec (ws := sw_chk) B.pre w (List.mem_cons_of_mem _ hw)
  have hown : s.vm.findClass "java/lang/String" = some m.cls := findClass_of_methodNamed B.named
  have hlocks := B.notSynchronized
  have hkp : ∀ a : Nat, a < (eH E).size → ¬ frz E a → s.heap[a]? = (eH E)[a]? := fun a ha _ => hold a (by rw [← hsz]; exact ha)
  have hS : va_S (frz E) s.heap s.heap [] := va_S.rf
  have hl := lv_entry ([.int k, .int n]) (n := 2) (Nat.le_of_ble_eq_true rfl)
  rw [lg_entry_eq]
  generalize (lg_sl ([.int k, .int n]) ++ List.replicate (2 - (lg_sl ([.int k, .int n])).length) Slot.unset).toArray = ls at hl ⊢
  have hl : lv_has ls 2 [(0, .int k), (1, .int n)] := lh_sub hl (fun q hq => by first | exact hq | (simp only [List.mem_cons, List.not_mem_nil, or_false] at hq ⊢; rcases hq with rfl | rfl <;> simp [lv_args, Value.category]))
  have hZ := hK.2.2.2.2.2.2.kept hkp
  refine lv_iload_n hx hb ds_chk_0 rfl (lv_at hl 0 rfl) ?_
  refine lv_iload_n hx hb ds_chk_1 rfl (lv_at hl 1 rfl) ?_
  have rest9 : ∀ r : Value, (r = .null ∨ ∃ a, r = .ref a) → W p l e (rmz 2 0 0) s m #[.int k, .int n] below meth c s.heap [] 0 0 (MQ below (Qs none) #[.int k, .int n] s 0 0 (fun _ => False)) (F0 m 5 ls [r, .int n, .int k]) := by
    intro r hr9
    refine call_same (a := #[.int k, .int n, r]) (va_runS (As := [.int k, .int n, r]) (rest := []) ⟨hx, hb, hml, hown, hts⟩ (sc_pre (E := E) hr9 h0 hn) ⟨callB_of 3 hts sin_pre rfl rfl rfl (hts _ sg_pre.2) (hts _ (mt3 207 rfl rfl)) sd_pre ⟨by decide, by decide⟩, hts _ ss_pre⟩ ⟨ps_blind E _, fun U hU hW => ⟨rfl, fun q hq => by rw [hU]; exact hold q hq, hsz, kw_KX E s U hW hK⟩⟩ rfl rfl hl.1 rfl (lv_room (by decide)) ds_chk_5 ⟨by decide, by decide⟩) ?_
    refine lv_pop hx hb ds_chk_8 rfl ?_
    exact W.vret hx hb hr (fun t ht _ => ⟨rfl, ht⟩) (fun _ z => by cases z) ds_chk_9
  rcases hZ with hZ | ⟨t, hZ⟩
  · refine va_gets hx hb hZ hS hown (hts _ (mt3 205 rfl rfl)) (fun _ z => z) ds_chk_2 ?_
    exact rest9 _ (Or.inl rfl)
  · refine va_gets hx hb hZ hS hown (hts _ (mt3 205 rfl rfl)) (fun _ z => z) ds_chk_2 ?_
    exact rest9 _ (Or.inr ⟨_, rfl⟩)
def PcL (E : EE) (i t : Nat) (a : List Value) : Array Value → State → Prop := fun v U => PcS E a v U ∧ va_T .byte t (slen i) (fun j => .int (sbyt i j)) (frz E) U (eH E)
theorem pl_blind (E : EE) (i t : Nat) (a : List Value) : FrameBlind (PcL E i t a) := fun x U g mk h => ⟨ps_blind E a x U g mk h.1, h.2⟩
theorem sc_lch {E : EE} {l : Launch} {i : Nat} (hi : i < 27) {t : Nat} {k : Int32} (hk : inR k (slen i) = true)  : Met l sy_lch sw_lch (rmz 3 0 0) (PcL E i t [.ref t, .int k]) (Qs (some (.int (sbyt i k.toNatClampNeg)))) 0 0 (fun _ => False) := by
  refine Met.ofW (cc := prog_24_method_2_code) (maxL := 2) (ret := some .char) (by decide +kernel) rfl ?_
  intro p e s m args below meth c s₁ B hml hv
  obtain ⟨⟨rfl, hold, hsz, hK⟩, hT1⟩ := hv
  have hx := B.exec
  have hb := B.bytes
  have hr := B.returns
  have hts : ∀ w ∈ gt, w.before _ s = true := fun w hw => atoms_spec (ws := sw_lch) B.pre w (List.mem_cons_of_mem _ hw)
  have hown : s.vm.findClass "java/lang/StringLatin1" = some m.cls := findClass_of_methodNamed B.named
  have hlocks := B.notSynchronized
  have hkp : ∀ a : Nat, a < (eH E).size → ¬ frz E a → s.heap[a]? = (eH E)[a]? := fun a ha _ => hold a (by rw [← hsz]; exact ha)
  have hS : va_S (frz E) s.heap s.heap [] := va_S.rf
  have hl := lv_entry ([.ref t, .int k]) (n := 2) (Nat.le_of_ble_eq_true rfl)
  rw [lg_entry_eq]
  generalize (lg_sl ([.ref t, .int k]) ++ List.replicate (2 - (lg_sl ([.ref t, .int k])).length) Slot.unset).toArray = ls at hl ⊢
  have hl : lv_has ls 2 [(0, .ref t), (1, .int k)] := lh_sub hl (fun q hq => by first | exact hq | (simp only [List.mem_cons, List.not_mem_nil, or_false] at hq ⊢; rcases hq with rfl | rfl <;> simp [lv_args, Value.category]))
  have hT := hT1.kept hkp
  have hlt := inR_lt hk
  have h0 : ¬ k < 0 := fun z => inR_in hk (Or.inl z)
  have hn : k < Int32.ofNat (slen i) := by
    obtain ⟨j, hj, rfl⟩ := nI_of h0
    rw [nI_clamp hj] at hlt
    exact nI_lt hlt (slen_i hi).2.1
  refine lv_iload_n hx hb ds_lch_0 rfl (lv_at hl 1 rfl) ?_
  refine lv_aload_n hx hb ds_lch_1 rfl (lv_at hl 0 rfl) ?_
  refine va_tlen hx hb hT hS rfl ds_lch_2 ?_
  refine call_same (a := #[.int k, .int (Int32.ofNat (slen i))]) (va_runS (As := [.int k, .int (Int32.ofNat (slen i))]) (rest := []) ⟨hx, hb, hml, hown, hts⟩ (sc_chk (E := E) h0 hn) ⟨callB_of 2 hts sin_chk rfl rfl rfl (hts _ sg_chk.2) (hts _ (mt3 202 rfl rfl)) sd_chk ⟨by decide, by decide⟩, hts _ ss_chk⟩ ⟨ps_blind E _, fun U hU hW => ⟨rfl, fun q hq => by rw [hU]; exact hold q hq, hsz, kw_KX E s U hW hK⟩⟩ rfl rfl hl.1 rfl (lv_room (by decide)) ds_lch_3 ⟨by decide, by decide⟩) ?_
  refine lv_aload_n hx hb ds_lch_6 rfl (lv_at hl 0 rfl) ?_
  refine lv_iload_n hx hb ds_lch_7 rfl (lv_at hl 1 rfl) ?_
  refine va_tb hx hb hT hS (inR_in hk) (v := .int (sbyt i k.toNatClampNeg)) rfl ds_lch_8 ?_
  refine lv_sipush (v := 255) hx hb ds_lch_9 (by decide) ?_
  refine lv_iand hx hb ds_lch_12 ?_
  rw [((slen_i hi).2.2.1 _ hlt).1]
  refine lv_i2c (v := sbyt i k.toNatClampNeg) hx hb ds_lch_13 ((slen_i hi).2.2.1 _ hlt).2.1 ?_
  exact W.zret hx hb hr ((slen_i hi).2.2.1 _ hlt).2.2 (fun t ht _ => ⟨rfl, ht⟩) (fun _ z => by cases z) ds_lch_14
theorem sc_chr {E : EE} {l : Launch} {i : Nat} (hi : i < 27) {k : Int32} (hk : inR k (slen i) = true)  : Met l sy_chr sw_chr (rmz 4 0 0) (PcS E [.ref (eA E i), .int k]) (Qs (some (.int (sbyt i k.toNatClampNeg)))) 0 0 (fun _ => False) := by
  refine Met.ofW (cc := prog_23_method_56_code) (maxL := 2) (ret := some .char) (by decide +kernel) rfl ?_
  intro p e s m args below meth c s₁ B hml hv
  obtain ⟨rfl, hold, hsz, hK⟩ := hv
  have hx := B.exec
  have hb := B.bytes
  have hr := B.returns
  have hts : ∀ w ∈ gt, w.before _ s = true := fun w hw => atoms_spec (ws := sw_chr) B.pre w (List.mem_cons_of_mem _ hw)
  have hown : s.vm.findClass "java/lang/String" = some m.cls := findClass_of_methodNamed B.named
  have hlocks := B.notSynchronized
  have hkp : ∀ a : Nat, a < (eH E).size → ¬ frz E a → s.heap[a]? = (eH E)[a]? := fun a ha _ => hold a (by rw [← hsz]; exact ha)
  have hS : va_S (frz E) s.heap s.heap [] := va_S.rf
  have hl := lv_entry ([.ref (eA E i), .int k]) (n := 2) (Nat.le_of_ble_eq_true rfl)
  rw [lg_entry_eq]
  generalize (lg_sl ([.ref (eA E i), .int k]) ++ List.replicate (2 - (lg_sl ([.ref (eA E i), .int k])).length) Slot.unset).toArray = ls at hl ⊢
  have hl : lv_has ls 2 [(0, .ref (eA E i)), (1, .int k)] := lh_sub hl (fun q hq => by first | exact hq | (simp only [List.mem_cons, List.not_mem_nil, or_false] at hq ⊢; rcases hq with rfl | rfl <;> simp [lv_args, Value.category]))
  obtain ⟨aV, hV⟩ := hK.2.2.2.2.1
  have hC := ((hV i hi).2.2.1).kept hkp
  have hT0 := (hV i hi).2.2.2
  refine lv_aload_n hx hb ds_chr_0 rfl (lv_at hl 0 rfl) ?_
  refine call_same (a := #[.ref (eA E i)]) (va_runV (C := "java/lang/String") (b := eA E i) (As := []) (rest := []) ⟨hx, hb, hml, hown, hts⟩ (sc_lat (E := E) hi) ⟨callB_of 0 hts sin_lat rfl rfl rfl (hts _ sg_lat.2) (hts _ (mt3 195 rfl rfl)) sd_lat ⟨by decide, by decide⟩, hts _ si_lat.1, hts _ si_lat.2⟩ ⟨ps_blind E _, z_recv ((hV i hi).1.kept hkp), fun U hU hW => ⟨rfl, fun q hq => by rw [hU]; exact hold q hq, hsz, kw_KX E s U hW hK⟩⟩ rfl rfl hl.1 rfl (lv_room (by decide)) ds_chr_1 ⟨by decide, by decide⟩) ?_
  refine lv_if_eq (tgt := 16) hx hb ds_chr_4 (by decide) (fun z => absurd z (by decide)) (fun _ => ?_)
  refine lv_aload_n hx hb ds_chr_7 rfl (lv_at hl 0 rfl) ?_
  refine vk_getf hx hb hC hS hown (hts _ (mt9 117 rfl rfl)) (fun _ z => z) ds_chr_8 ?_
  refine lv_iload_n hx hb ds_chr_11 rfl (lv_at hl 1 rfl) ?_
  refine call_same (a := #[.ref (aV i), .int k]) (va_runS (As := [.ref (aV i), .int k]) (rest := []) ⟨hx, hb, hml, hown, hts⟩ (sc_lch (E := E) hi hk) ⟨callB_of 2 hts sin_lch rfl rfl rfl (hts _ sg_lch.2) (hts _ (mt3 199 rfl rfl)) sd_lch ⟨by decide, by decide⟩, hts _ ss_lch⟩ ⟨pl_blind E i (aV i) _, fun U hU hW => ⟨⟨rfl, fun q hq => by rw [hU]; exact hold q hq, hsz, kw_KX E s U hW hK⟩, va_T.moved hW.alike hT0⟩⟩ rfl rfl hl.1 rfl (lv_room (by decide)) ds_chr_12 ⟨by decide, by decide⟩) ?_
  exact W.zret hx hb hr ((slen_i hi).2.2.1 _ (inR_lt hk)).2.2 (fun t ht _ => ⟨rfl, ht⟩) (fun _ z => by cases z) ds_chr_15
theorem sps {E : EE} {l : Launch} : SpS E (KX E) l := by
  intro p e R s m args below meth c Q mm d σ0 A
  have hts := A.2.2.2.2.2.1
  have hKn := A.2.2.2.2.2.2.2.2.2.1
  have hKX : KX E s := hKn.2.2.2.2.2.2.2
  have hsz : (eH E).size = eB E := hKn.2.2.2.2.2.2.1
  have hfr := A.2.2.2.2.2.2.2.2.2.2.1
  have hlo := A.2.2.2.2.2.2.2.2.2.2.2
  have e16 : ∀ a : Nat, a % 64 = 16 → adr E a = eA E (a / 64) := fun a ha => if_pos ha
  refine ⟨?_, ?_, ?_⟩
  · intro idx pc n i L st σ hd hi k ls H locs cells slots h1 h2 h3 h4 h5
    have hR := hKX.1 (zo mm) idx i hi
    have hk := k ls H locs cells slots h1 h2 h3 h4 h5
    have ea : adr E (16 + 64 * i) = eA E i := by rw [e16 _ (by omega), show (16 + 64 * i) / 64 = i by omega]
    have es : (Value.ref (16 + 64 * i) :: st).map (cv E) = .ref (eA E i) :: st.map (cv E) := by
      show Value.ref (adr E (16 + 64 * i)) :: _ = _
      rw [ea]
    rcases hd with ⟨hd, rfl⟩ | ⟨hd, rfl⟩
    · refine va_ldcS A.1 A.2.1 A.2.2.2.2.1 hR hd ?_
      rw [← es]
      exact hk
    · intro T hT X
      obtain ⟨t, a1, b1⟩ := hk T hT X
      refine ⟨t, X.ldcStringW A.1 (own := zC (zo mm)) (text := ztx i) (index := idx) (a := eA E i) A.2.2.2.2.1 hR.1 hR.2 (g := F0 m pc ls (st.map (cv E))) rfl (by rw [A.2.1]; exact hd) t ?_, b1⟩
      have a1 : Steps p.tables e below (T.setTop (F0 m (pc + 3) ls ((Value.ref (16 + 64 * i) :: st).map (cv E)))) t := a1
      rw [es] at a1
      exact a1
  · intro idx pc a L r σ hd hlk w hr hc k ls H locs cells slots h1 h2 h3 h4 h5
    obtain ⟨c1, c2, c3, c4⟩ := hc
    obtain ⟨aV, hV⟩ := hKX.2.2.2.2.1
    have hkp : ∀ a : Nat, a < (eH E).size → ¬ frz E a → H[a]? = (eH E)[a]? := fun a ha _ => h2.2.1 a (by rw [← hsz]; exact ha)
    have hrec : ∃ cell : Cell, H[eA E (a / 64)]? = some cell ∧ cell.vm.isStatics = false ∧ s.vm.findClass "java/lang/String" = some cell.cls := by
      obtain ⟨cell, q1, q2, q3, -⟩ := ((hV _ c3).1).kept hkp
      exact ⟨cell, q1, q2, q3⟩
    have r1 := hr.1
    have r2 := hr.2
    have h4' : cells + hN σ0 = hN σ := h4
    have h5' : slots + hS σ0 = hS σ := h5
    show W p l e R s m args below meth c H locs cells slots Q (F0 m pc ls (.ref (adr E a) :: r.map (cv E)))
    rw [e16 a c2]
    refine call_same (a := #[.ref (eA E (a / 64))]) (va_runV (C := "java/lang/String") (b := eA E (a / 64)) (As := []) (rest := r.map (cv E)) (call_fix A) (sc_len (E := E) c3) ⟨callB_of 0 hts sin_len rfl rfl rfl (hts _ sg_len.2) (hts _ hlk) sd_len ⟨by show 2 + 1 ≤ _; omega, by show 8 + (1 + 11) + 40 * 2 ≤ _; omega⟩, hts _ si_len.1, hts _ si_len.2⟩ ⟨ps_blind E _, hrec, fun U hU hW => ⟨rfl, fun q hq => by rw [hU]; exact h2.2.1 q hq, hsz, kw_KX E s U hW hKX⟩⟩ rfl rfl (by show ls.size = _; rw [h1.1]; exact w.2.2.2) rfl (room8 c4) hd ⟨by omega, by omega⟩) ?_
    exact k ls H locs cells slots h1 h2 h3 h4 h5
  · intro idx pc a i L r σ hd hlk w hr hc k ls H locs cells slots h1 h2 h3 h4 h5
    obtain ⟨c1, c2, c3, c4, c5⟩ := hc
    obtain ⟨aV, hV⟩ := hKX.2.2.2.2.1
    have hkp : ∀ a : Nat, a < (eH E).size → ¬ frz E a → H[a]? = (eH E)[a]? := fun a ha _ => h2.2.1 a (by rw [← hsz]; exact ha)
    have hrec : ∃ cell : Cell, H[eA E (a / 64)]? = some cell ∧ cell.vm.isStatics = false ∧ s.vm.findClass "java/lang/String" = some cell.cls := by
      obtain ⟨cell, q1, q2, q3, -⟩ := ((hV _ c3).1).kept hkp
      exact ⟨cell, q1, q2, q3⟩
    have r1 := hr.1
    have r2 := hr.2
    have h4' : cells + hN σ0 = hN σ := h4
    have h5' : slots + hS σ0 = hS σ := h5
    show W p l e R s m args below meth c H locs cells slots Q (F0 m pc ls (.int i :: .ref (adr E a) :: r.map (cv E)))
    rw [e16 a c2]
    refine call_same (a := #[.ref (eA E (a / 64)), .int i]) (va_runV (C := "java/lang/String") (b := eA E (a / 64)) (As := [.int i]) (rest := r.map (cv E)) (call_fix A) (sc_chr (E := E) c3 c5) ⟨callB_of 1 hts sin_chr rfl rfl rfl (hts _ sg_chr.2) (hts _ hlk) sd_chr ⟨by show 4 + 1 ≤ _; omega, by show 8 + (2 + 11) + 40 * 4 ≤ _; omega⟩, hts _ si_chr.1, hts _ si_chr.2⟩ ⟨ps_blind E _, hrec, fun U hU hW => ⟨rfl, fun q hq => by rw [hU]; exact h2.2.1 q hq, hsz, kw_KX E s U hW hKX⟩⟩ rfl rfl (by show ls.size = _; rw [h1.1]; exact w.2.2.2) rfl (room8 c4) hd ⟨by omega, by omega⟩) ?_
    exact k ls H locs cells slots h1 h2 h3 h4 h5
