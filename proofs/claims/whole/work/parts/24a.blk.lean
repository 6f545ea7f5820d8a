/-! BLOCKS: what the code of each method does from one place of branching, calling or ending to the next (generated) -/
theorem e_Book_init {d : Nat} {σ : HP} {a0 : Nat} : callF (d + 1) m_Book_init [.ref a0] σ = runF (callF d) d m_Book_init (0, [some (.ref a0)], [], σ) := callF_in rfl rfl
theorem b_Book_init_0 {C : CF} {d : Nat} {σ : HP} {a0 : Nat} (h1 : a0 % 64 = 0) : runF C d m_Book_init (0, [some (.ref a0)], [], σ) = some (.inl none, wI (wR (hA (wR (hA (wR (hA (wI (wI (wR (hA σ 21 7) a0 0 (some (21 + 64 * hN σ))) a0 1 (0 : Int32)) a0 2 (0 : Int32)) 26 56) a0 3 (some (26 + 64 * (hN σ + 1)))) 26 56) a0 4 (some (26 + 64 * (hN σ + 2)))) 26 56) a0 5 (some (26 + 64 * (hN σ + 3)))) a0 6 (0 : Int32)) := by
  refine (r_aloadn 0 (show decode (zb m_Book_init) 0 = .ok (.aload_n 0, 1) from by decide +kernel) rfl).trans ?_
  refine (r_obj (show decode (zb m_Book_init) 1 = .ok (.invokespecial 3, 3) from by decide +kernel) rfl (by have := h1; omega) rfl).trans ?_
  refine (r_aloadn 0 (show decode (zb m_Book_init) 4 = .ok (.aload_n 0, 1) from by decide +kernel) rfl).trans ?_
  refine (r_bipush (v := (7 : Int32)) (show decode (zb m_Book_init) 5 = .ok (.bipush (7), 2) from by decide +kernel) (by decide)).trans ?_
  refine (r_arrI (k := 21) (show decode (zb m_Book_init) 7 = .ok (.newarray .int, 2) from by decide +kernel) (by decide) (by decide)).trans ?_
  refine (r_putR (show decode (zb m_Book_init) 9 = .ok (.putfield 9, 3) from by decide +kernel) rfl rfl rfl h1).trans ?_
  refine (r_aloadn 0 (show decode (zb m_Book_init) 12 = .ok (.aload_n 0, 1) from by decide +kernel) rfl).trans ?_
  refine (r_iconst (v := (0 : Int32)) (show decode (zb m_Book_init) 13 = .ok (.iconst (0), 1) from by decide +kernel) (by decide)).trans ?_
  refine (r_putI (show decode (zb m_Book_init) 14 = .ok (.putfield 15, 3) from by decide +kernel) rfl rfl rfl h1).trans ?_
  refine (r_aloadn 0 (show decode (zb m_Book_init) 17 = .ok (.aload_n 0, 1) from by decide +kernel) rfl).trans ?_
  refine (r_iconst (v := (0 : Int32)) (show decode (zb m_Book_init) 18 = .ok (.iconst (0), 1) from by decide +kernel) (by decide)).trans ?_
  refine (r_putI (show decode (zb m_Book_init) 19 = .ok (.putfield 19, 3) from by decide +kernel) rfl rfl rfl h1).trans ?_
  refine (r_aloadn 0 (show decode (zb m_Book_init) 22 = .ok (.aload_n 0, 1) from by decide +kernel) rfl).trans ?_
  refine (r_bipush (v := (56 : Int32)) (show decode (zb m_Book_init) 23 = .ok (.bipush (56), 2) from by decide +kernel) (by decide)).trans ?_
  refine (r_arrI (k := 26) (show decode (zb m_Book_init) 25 = .ok (.newarray .int, 2) from by decide +kernel) (by decide) (by decide)).trans ?_
  refine (r_putR (show decode (zb m_Book_init) 27 = .ok (.putfield 22, 3) from by decide +kernel) rfl rfl rfl h1).trans ?_
  refine (r_aloadn 0 (show decode (zb m_Book_init) 30 = .ok (.aload_n 0, 1) from by decide +kernel) rfl).trans ?_
  refine (r_bipush (v := (56 : Int32)) (show decode (zb m_Book_init) 31 = .ok (.bipush (56), 2) from by decide +kernel) (by decide)).trans ?_
  refine (r_arrI (k := 26) (show decode (zb m_Book_init) 33 = .ok (.newarray .int, 2) from by decide +kernel) (by decide) (by decide)).trans ?_
  refine (r_putR (show decode (zb m_Book_init) 35 = .ok (.putfield 25, 3) from by decide +kernel) rfl rfl rfl h1).trans ?_
  refine (r_aloadn 0 (show decode (zb m_Book_init) 38 = .ok (.aload_n 0, 1) from by decide +kernel) rfl).trans ?_
  refine (r_bipush (v := (56 : Int32)) (show decode (zb m_Book_init) 39 = .ok (.bipush (56), 2) from by decide +kernel) (by decide)).trans ?_
  refine (r_arrI (k := 26) (show decode (zb m_Book_init) 41 = .ok (.newarray .int, 2) from by decide +kernel) (by decide) (by decide)).trans ?_
  refine (r_putR (show decode (zb m_Book_init) 43 = .ok (.putfield 28, 3) from by decide +kernel) rfl rfl rfl h1).trans ?_
  refine (r_aloadn 0 (show decode (zb m_Book_init) 46 = .ok (.aload_n 0, 1) from by decide +kernel) rfl).trans ?_
  refine (r_iconst (v := (0 : Int32)) (show decode (zb m_Book_init) 47 = .ok (.iconst (0), 1) from by decide +kernel) (by decide)).trans ?_
  refine (r_putI (show decode (zb m_Book_init) 48 = .ok (.putfield 31, 3) from by decide +kernel) rfl rfl rfl h1).trans ?_
  exact r_vret (show decode (zb m_Book_init) 51 = .ok (.return_, 1) from by decide +kernel) rfl
theorem e_Book_wipe {d : Nat} {σ : HP} {a0 : Nat} : callF (d + 1) m_Book_wipe [.ref a0] σ = runF (callF d) d m_Book_wipe (0, [some (.ref a0)], [], σ) := callF_in rfl rfl
theorem b_Book_wipe_0 {C : CF} {d : Nat} {σ : HP} {a0 : Nat} (h1 : a0 % 64 = 0) : runF C d m_Book_wipe (0, [some (.ref a0)], [], σ) = some (.inl none, wI (wI σ a0 1 (0 : Int32)) a0 2 (0 : Int32)) := by
  refine (r_aloadn 0 (show decode (zb m_Book_wipe) 0 = .ok (.aload_n 0, 1) from by decide +kernel) rfl).trans ?_
  refine (r_iconst (v := (0 : Int32)) (show decode (zb m_Book_wipe) 1 = .ok (.iconst (0), 1) from by decide +kernel) (by decide)).trans ?_
  refine (r_putI (show decode (zb m_Book_wipe) 2 = .ok (.putfield 15, 3) from by decide +kernel) rfl rfl rfl h1).trans ?_
  refine (r_aloadn 0 (show decode (zb m_Book_wipe) 5 = .ok (.aload_n 0, 1) from by decide +kernel) rfl).trans ?_
  refine (r_iconst (v := (0 : Int32)) (show decode (zb m_Book_wipe) 6 = .ok (.iconst (0), 1) from by decide +kernel) (by decide)).trans ?_
  refine (r_putI (show decode (zb m_Book_wipe) 7 = .ok (.putfield 19, 3) from by decide +kernel) rfl rfl rfl h1).trans ?_
  exact r_vret (show decode (zb m_Book_wipe) 10 = .ok (.return_, 1) from by decide +kernel) rfl
theorem e_Book_readLines {d : Nat} {σ : HP} {a0 : Nat} {a1 : Nat} {x2 : Int32} : callF (d + 1) m_Book_readLines [.ref a0, .ref a1, .int x2] σ = runF (callF d) d m_Book_readLines (0, [some (.ref a0), some (.ref a1), some (.int x2), none, none, none, none], [], σ) := callF_in rfl rfl
theorem b_Book_readLines_0 {C : CF} {d : Nat} {σ : HP} {a0 : Nat} {l1 : Option Value} {l2 : Option Value} {l3 : Option Value} {l4 : Option Value} {l5 : Option Value} {l6 : Option Value} (h1 : a0 % 64 = 0) : runF C d m_Book_readLines (0, [some (.ref a0), l1, l2, l3, l4, l5, l6], [], σ) = bk C d m_Book_readLines 1 [some (.ref a0), l1, l2, l3, l4, l5, l6] [] (C m_Book_wipe [.ref a0] σ) := by
  refine (r_aloadn 0 (show decode (zb m_Book_readLines) 0 = .ok (.aload_n 0, 1) from by decide +kernel) rfl).trans ?_
  exact r_virt (args := []) (rest := []) (show decode (zb m_Book_readLines) 1 = .ok (.invokevirtual 34, 3) from by decide +kernel) rfl rfl rfl h1
theorem b_Book_readLines_4 {C : CF} {d : Nat} {σ : HP} {l0 : Option Value} {l1 : Option Value} {l2 : Option Value} {l3 : Option Value} {l4 : Option Value} {l5 : Option Value} {l6 : Option Value}  : runF C d m_Book_readLines (4, [l0, l1, l2, l3, l4, l5, l6], [], σ) = runF C d m_Book_readLines (6, [l0, l1, l2, some (.int ((0 : Int32))), l4, l5, l6], [], σ) := by
  refine (r_iconst (v := (0 : Int32)) (show decode (zb m_Book_readLines) 4 = .ok (.iconst (0), 1) from by decide +kernel) (by decide)).trans ?_
  exact r_istoren 3 (show decode (zb m_Book_readLines) 5 = .ok (.istore_n 3, 1) from by decide +kernel) rfl
theorem b_Book_readLines_6 {C : CF} {d : Nat} {σ : HP} {x3 : Int32} {l0 : Option Value} {l1 : Option Value} {l2 : Option Value} {l4 : Option Value} {l5 : Option Value} {l6 : Option Value}  : runF C d m_Book_readLines (6, [l0, l1, l2, some (.int x3), l4, l5, l6], [], σ) = if (60 : Int32) ≤ x3 then runF C d m_Book_readLines (130, [l0, l1, l2, some (.int x3), l4, l5, l6], [], σ) else runF C d m_Book_readLines (12, [l0, l1, l2, some (.int x3), l4, l5, l6], [], σ) := by
  refine (r_iloadn 3 (show decode (zb m_Book_readLines) 6 = .ok (.iload_n 3, 1) from by decide +kernel) rfl).trans ?_
  refine (r_bipush (v := (60 : Int32)) (show decode (zb m_Book_readLines) 7 = .ok (.bipush (60), 2) from by decide +kernel) (by decide)).trans ?_
  exact r_icmp_ge 130 (show decode (zb m_Book_readLines) 9 = .ok (.if_icmp .ge (121), 3) from by decide +kernel) rfl
theorem b_Book_readLines_12 {C : CF} {d : Nat} {σ : HP} {a1 : Nat} {l0 : Option Value} {l2 : Option Value} {l3 : Option Value} {l4 : Option Value} {l5 : Option Value} {l6 : Option Value} (h1 : a1 % 64 = 7) : runF C d m_Book_readLines (12, [l0, some (.ref a1), l2, l3, l4, l5, l6], [], σ) = bk C d m_Book_readLines 13 [l0, some (.ref a1), l2, l3, l4, l5, l6] [] (C m_Reader_failed [.ref a1] σ) := by
  refine (r_aloadn 1 (show decode (zb m_Book_readLines) 12 = .ok (.aload_n 1, 1) from by decide +kernel) rfl).trans ?_
  exact r_virt (args := []) (rest := []) (show decode (zb m_Book_readLines) 13 = .ok (.invokevirtual 37, 3) from by decide +kernel) rfl rfl rfl h1
theorem b_Book_readLines_16 {C : CF} {d : Nat} {σ : HP} {s0 : Int32} {l0 : Option Value} {l1 : Option Value} {l2 : Option Value} {l3 : Option Value} {l4 : Option Value} {l5 : Option Value} {l6 : Option Value}  : runF C d m_Book_readLines (16, [l0, l1, l2, l3, l4, l5, l6], [.int s0], σ) = if ¬ s0 = 0 then runF C d m_Book_readLines (27, [l0, l1, l2, l3, l4, l5, l6], [], σ) else runF C d m_Book_readLines (19, [l0, l1, l2, l3, l4, l5, l6], [], σ) := by
  exact r_if_ne 27 (show decode (zb m_Book_readLines) 16 = .ok (.ifCond .ne (11), 3) from by decide +kernel) rfl
theorem b_Book_readLines_19 {C : CF} {d : Nat} {σ : HP} {a1 : Nat} {l0 : Option Value} {l2 : Option Value} {l3 : Option Value} {l4 : Option Value} {l5 : Option Value} {l6 : Option Value} (h1 : a1 % 64 = 7) : runF C d m_Book_readLines (19, [l0, some (.ref a1), l2, l3, l4, l5, l6], [], σ) = bk C d m_Book_readLines 20 [l0, some (.ref a1), l2, l3, l4, l5, l6] [] (C m_Reader_peek [.ref a1] σ) := by
  refine (r_aloadn 1 (show decode (zb m_Book_readLines) 19 = .ok (.aload_n 1, 1) from by decide +kernel) rfl).trans ?_
  exact r_virt (args := []) (rest := []) (show decode (zb m_Book_readLines) 20 = .ok (.invokevirtual 43, 3) from by decide +kernel) rfl rfl rfl h1
theorem b_Book_readLines_23 {C : CF} {d : Nat} {σ : HP} {s0 : Int32} {l0 : Option Value} {l1 : Option Value} {l2 : Option Value} {l3 : Option Value} {l4 : Option Value} {l5 : Option Value} {l6 : Option Value}  : runF C d m_Book_readLines (23, [l0, l1, l2, l3, l4, l5, l6], [.int s0], σ) = if ¬ s0 = (-1 : Int32) then runF C d m_Book_readLines (28, [l0, l1, l2, l3, l4, l5, l6], [], σ) else runF C d m_Book_readLines (27, [l0, l1, l2, l3, l4, l5, l6], [], σ) := by
  refine (r_iconst (v := (-1 : Int32)) (show decode (zb m_Book_readLines) 23 = .ok (.iconst (-1), 1) from by decide +kernel) (by decide)).trans ?_
  exact r_icmp_ne 28 (show decode (zb m_Book_readLines) 24 = .ok (.if_icmp .ne (4), 3) from by decide +kernel) rfl
theorem b_Book_readLines_27 {C : CF} {d : Nat} {σ : HP} {l0 : Option Value} {l1 : Option Value} {l2 : Option Value} {l3 : Option Value} {l4 : Option Value} {l5 : Option Value} {l6 : Option Value}  : runF C d m_Book_readLines (27, [l0, l1, l2, l3, l4, l5, l6], [], σ) = some (.inl none, σ) := by
  exact r_vret (show decode (zb m_Book_readLines) 27 = .ok (.return_, 1) from by decide +kernel) rfl
theorem b_Book_readLines_28 {C : CF} {d : Nat} {σ : HP} {a1 : Nat} {x2 : Int32} {l0 : Option Value} {l3 : Option Value} {l4 : Option Value} {l5 : Option Value} {l6 : Option Value} (h1 : a1 % 64 = 7) : runF C d m_Book_readLines (28, [l0, some (.ref a1), some (.int x2), l3, l4, l5, l6], [], σ) = bk C d m_Book_readLines 39 [l0, some (.ref a1), some (.int x2), l3, some (.int (gI σ a1 2)), l5, l6] [] (C m_Reader_readNumber [.ref a1, .int ((0 : Int32)), .int (x2 - (1 : Int32))] σ) := by
  refine (r_aloadn 1 (show decode (zb m_Book_readLines) 28 = .ok (.aload_n 1, 1) from by decide +kernel) rfl).trans ?_
  refine (r_getI (show decode (zb m_Book_readLines) 29 = .ok (.getfield 47, 3) from by decide +kernel) rfl rfl h1).trans ?_
  refine (r_istore 4 (show decode (zb m_Book_readLines) 32 = .ok (.istore 4, 2) from by decide +kernel) rfl).trans ?_
  refine (r_aloadn 1 (show decode (zb m_Book_readLines) 34 = .ok (.aload_n 1, 1) from by decide +kernel) rfl).trans ?_
  refine (r_iconst (v := (0 : Int32)) (show decode (zb m_Book_readLines) 35 = .ok (.iconst (0), 1) from by decide +kernel) (by decide)).trans ?_
  refine (r_iloadn 2 (show decode (zb m_Book_readLines) 36 = .ok (.iload_n 2, 1) from by decide +kernel) rfl).trans ?_
  refine (r_iconst (v := (1 : Int32)) (show decode (zb m_Book_readLines) 37 = .ok (.iconst (1), 1) from by decide +kernel) (by decide)).trans ?_
  refine (r_isub (show decode (zb m_Book_readLines) 38 = .ok (.isub, 1) from by decide +kernel)).trans ?_
  exact r_virt (args := [.int ((0 : Int32)), .int (x2 - (1 : Int32))]) (rest := []) (show decode (zb m_Book_readLines) 39 = .ok (.invokevirtual 50, 3) from by decide +kernel) rfl rfl rfl h1
theorem b_Book_readLines_42 {C : CF} {d : Nat} {σ : HP} {s0 : Int32} {a1 : Nat} {l0 : Option Value} {l2 : Option Value} {l3 : Option Value} {l4 : Option Value} {l5 : Option Value} {l6 : Option Value} (h1 : a1 % 64 = 7) : runF C d m_Book_readLines (42, [l0, some (.ref a1), l2, l3, l4, l5, l6], [.int s0], σ) = bk C d m_Book_readLines 45 [l0, some (.ref a1), l2, l3, l4, some (.int s0), l6] [] (C m_Reader_failed [.ref a1] σ) := by
  refine (r_istore 5 (show decode (zb m_Book_readLines) 42 = .ok (.istore 5, 2) from by decide +kernel) rfl).trans ?_
  refine (r_aloadn 1 (show decode (zb m_Book_readLines) 44 = .ok (.aload_n 1, 1) from by decide +kernel) rfl).trans ?_
  exact r_virt (args := []) (rest := []) (show decode (zb m_Book_readLines) 45 = .ok (.invokevirtual 37, 3) from by decide +kernel) rfl rfl rfl h1
theorem b_Book_readLines_48 {C : CF} {d : Nat} {σ : HP} {s0 : Int32} {l0 : Option Value} {l1 : Option Value} {l2 : Option Value} {l3 : Option Value} {l4 : Option Value} {l5 : Option Value} {l6 : Option Value}  : runF C d m_Book_readLines (48, [l0, l1, l2, l3, l4, l5, l6], [.int s0], σ) = if ¬ s0 = 0 then runF C d m_Book_readLines (67, [l0, l1, l2, l3, l4, l5, l6], [], σ) else runF C d m_Book_readLines (51, [l0, l1, l2, l3, l4, l5, l6], [], σ) := by
  exact r_if_ne 67 (show decode (zb m_Book_readLines) 48 = .ok (.ifCond .ne (19), 3) from by decide +kernel) rfl
theorem b_Book_readLines_51 {C : CF} {d : Nat} {σ : HP} {a0 : Nat} {x5 : Int32} {l1 : Option Value} {l2 : Option Value} {l3 : Option Value} {l4 : Option Value} {l6 : Option Value} (h1 : a0 % 64 = 0) : runF C d m_Book_readLines (51, [some (.ref a0), l1, l2, l3, l4, some (.int x5), l6], [], σ) = bk C d m_Book_readLines 54 [some (.ref a0), l1, l2, l3, l4, some (.int x5), l6] [] (C m_Book_hasLine [.ref a0, .int x5] σ) := by
  refine (r_aloadn 0 (show decode (zb m_Book_readLines) 51 = .ok (.aload_n 0, 1) from by decide +kernel) rfl).trans ?_
  refine (r_iload 5 (show decode (zb m_Book_readLines) 52 = .ok (.iload 5, 2) from by decide +kernel) rfl).trans ?_
  exact r_virt (args := [.int x5]) (rest := []) (show decode (zb m_Book_readLines) 54 = .ok (.invokevirtual 54, 3) from by decide +kernel) rfl rfl rfl h1
theorem b_Book_readLines_57 {C : CF} {d : Nat} {σ : HP} {s0 : Int32} {l0 : Option Value} {l1 : Option Value} {l2 : Option Value} {l3 : Option Value} {l4 : Option Value} {l5 : Option Value} {l6 : Option Value}  : runF C d m_Book_readLines (57, [l0, l1, l2, l3, l4, l5, l6], [.int s0], σ) = if s0 = 0 then runF C d m_Book_readLines (67, [l0, l1, l2, l3, l4, l5, l6], [], σ) else runF C d m_Book_readLines (60, [l0, l1, l2, l3, l4, l5, l6], [], σ) := by
  exact r_if_eq 67 (show decode (zb m_Book_readLines) 57 = .ok (.ifCond .eq (10), 3) from by decide +kernel) rfl
theorem b_Book_readLines_60 {C : CF} {d : Nat} {σ : HP} {a1 : Nat} {x4 : Int32} {l0 : Option Value} {l2 : Option Value} {l3 : Option Value} {l5 : Option Value} {l6 : Option Value} (h1 : a1 % 64 = 7) : runF C d m_Book_readLines (60, [l0, some (.ref a1), l2, l3, some (.int x4), l5, l6], [], σ) = bk C d m_Book_readLines 64 [l0, some (.ref a1), l2, l3, some (.int x4), l5, l6] [] (C m_Reader_blame [.ref a1, .int ((2 : Int32)), .int x4] σ) := by
  refine (r_aloadn 1 (show decode (zb m_Book_readLines) 60 = .ok (.aload_n 1, 1) from by decide +kernel) rfl).trans ?_
  refine (r_iconst (v := (2 : Int32)) (show decode (zb m_Book_readLines) 61 = .ok (.iconst (2), 1) from by decide +kernel) (by decide)).trans ?_
  refine (r_iload 4 (show decode (zb m_Book_readLines) 62 = .ok (.iload 4, 2) from by decide +kernel) rfl).trans ?_
  exact r_virt (args := [.int ((2 : Int32)), .int x4]) (rest := []) (show decode (zb m_Book_readLines) 64 = .ok (.invokevirtual 58, 3) from by decide +kernel) rfl rfl rfl h1
theorem b_Book_readLines_67 {C : CF} {d : Nat} {σ : HP} {a1 : Nat} {l0 : Option Value} {l2 : Option Value} {l3 : Option Value} {l4 : Option Value} {l5 : Option Value} {l6 : Option Value} (h1 : a1 % 64 = 7) : runF C d m_Book_readLines (67, [l0, some (.ref a1), l2, l3, l4, l5, l6], [], σ) = bk C d m_Book_readLines 72 [l0, some (.ref a1), l2, l3, l4, l5, l6] [] (C m_Reader_readNumber [.ref a1, .int ((0 : Int32)), .int ((999 : Int32))] σ) := by
  refine (r_aloadn 1 (show decode (zb m_Book_readLines) 67 = .ok (.aload_n 1, 1) from by decide +kernel) rfl).trans ?_
  refine (r_iconst (v := (0 : Int32)) (show decode (zb m_Book_readLines) 68 = .ok (.iconst (0), 1) from by decide +kernel) (by decide)).trans ?_
  refine (r_sipush (v := (999 : Int32)) (show decode (zb m_Book_readLines) 69 = .ok (.sipush (999), 3) from by decide +kernel) (by decide)).trans ?_
  exact r_virt (args := [.int ((0 : Int32)), .int ((999 : Int32))]) (rest := []) (show decode (zb m_Book_readLines) 72 = .ok (.invokevirtual 50, 3) from by decide +kernel) rfl rfl rfl h1
theorem b_Book_readLines_75 {C : CF} {d : Nat} {σ : HP} {s0 : Int32} {a1 : Nat} {l0 : Option Value} {l2 : Option Value} {l3 : Option Value} {l4 : Option Value} {l5 : Option Value} {l6 : Option Value} (h1 : a1 % 64 = 7) : runF C d m_Book_readLines (75, [l0, some (.ref a1), l2, l3, l4, l5, l6], [.int s0], σ) = bk C d m_Book_readLines 80 [l0, some (.ref a1), l2, l3, l4, l5, some (.int s0)] [] (C m_Reader_needSign [.ref a1, .int ((59 : Int32))] σ) := by
  refine (r_istore 6 (show decode (zb m_Book_readLines) 75 = .ok (.istore 6, 2) from by decide +kernel) rfl).trans ?_
  refine (r_aloadn 1 (show decode (zb m_Book_readLines) 77 = .ok (.aload_n 1, 1) from by decide +kernel) rfl).trans ?_
  refine (r_bipush (v := (59 : Int32)) (show decode (zb m_Book_readLines) 78 = .ok (.bipush (59), 2) from by decide +kernel) (by decide)).trans ?_
  exact r_virt (args := [.int ((59 : Int32))]) (rest := []) (show decode (zb m_Book_readLines) 80 = .ok (.invokevirtual 62, 3) from by decide +kernel) rfl rfl rfl h1
theorem b_Book_readLines_83 {C : CF} {d : Nat} {σ : HP} {a1 : Nat} {l0 : Option Value} {l2 : Option Value} {l3 : Option Value} {l4 : Option Value} {l5 : Option Value} {l6 : Option Value} (h1 : a1 % 64 = 7) : runF C d m_Book_readLines (83, [l0, some (.ref a1), l2, l3, l4, l5, l6], [], σ) = bk C d m_Book_readLines 84 [l0, some (.ref a1), l2, l3, l4, l5, l6] [] (C m_Reader_failed [.ref a1] σ) := by
  refine (r_aloadn 1 (show decode (zb m_Book_readLines) 83 = .ok (.aload_n 1, 1) from by decide +kernel) rfl).trans ?_
  exact r_virt (args := []) (rest := []) (show decode (zb m_Book_readLines) 84 = .ok (.invokevirtual 37, 3) from by decide +kernel) rfl rfl rfl h1
theorem b_Book_readLines_87 {C : CF} {d : Nat} {σ : HP} {s0 : Int32} {l0 : Option Value} {l1 : Option Value} {l2 : Option Value} {l3 : Option Value} {l4 : Option Value} {l5 : Option Value} {l6 : Option Value}  : runF C d m_Book_readLines (87, [l0, l1, l2, l3, l4, l5, l6], [.int s0], σ) = if ¬ s0 = 0 then runF C d m_Book_readLines (124, [l0, l1, l2, l3, l4, l5, l6], [], σ) else runF C d m_Book_readLines (90, [l0, l1, l2, l3, l4, l5, l6], [], σ) := by
  exact r_if_ne 124 (show decode (zb m_Book_readLines) 87 = .ok (.ifCond .ne (37), 3) from by decide +kernel) rfl
theorem b_Book_readLines_90 {C : CF} {d : Nat} {σ : HP} {a0 : Nat} {x5 : Int32} {x6 : Int32} {l1 : Option Value} {l2 : Option Value} {l3 : Option Value} {l4 : Option Value} (h1 : a0 % 64 = 0) (h2 : (gR σ a0 0).isSome = true) : runF C d m_Book_readLines (90, [some (.ref a0), l1, l2, l3, l4, some (.int x5), some (.int x6)], [], σ) = bkN C d m_Book_readLines 98 [some (.ref a0), l1, l2, l3, l4, some (.int x5), some (.int x6)] [] (C m_PL_put [.ref (dr (gR σ a0 0)), .int x5, .int x6] σ) := by
  refine (r_aloadn 0 (show decode (zb m_Book_readLines) 90 = .ok (.aload_n 0, 1) from by decide +kernel) rfl).trans ?_
  refine (r_getR (show decode (zb m_Book_readLines) 91 = .ok (.getfield 9, 3) from by decide +kernel) rfl rfl h1 h2).trans ?_
  refine (r_iload 5 (show decode (zb m_Book_readLines) 94 = .ok (.iload 5, 2) from by decide +kernel) rfl).trans ?_
  refine (r_iload 6 (show decode (zb m_Book_readLines) 96 = .ok (.iload 6, 2) from by decide +kernel) rfl).trans ?_
  exact r_stat (args := [.ref (dr (gR σ a0 0)), .int x5, .int x6]) (rest := []) (show decode (zb m_Book_readLines) 98 = .ok (.invokestatic 66, 3) from by decide +kernel) rfl (by decide) rfl rfl
theorem b_Book_readLines_101 {C : CF} {d : Nat} {σ : HP} {a0 : Nat} {x5 : Int32} {l1 : Option Value} {l2 : Option Value} {l3 : Option Value} {l4 : Option Value} {l6 : Option Value} (h1 : a0 % 64 = 0) : runF C d m_Book_readLines (101, [some (.ref a0), l1, l2, l3, l4, some (.int x5), l6], [], σ) = runF C d m_Book_readLines (124, [some (.ref a0), l1, l2, l3, l4, some (.int x5), l6], [], wI (wI σ a0 2 ((gI σ a0 2) ||| (p_shl (1 : Int32) x5))) a0 1 ((gI (wI σ a0 2 ((gI σ a0 2) ||| (p_shl (1 : Int32) x5))) a0 1) + (1 : Int32))) := by
  refine (r_aloadn 0 (show decode (zb m_Book_readLines) 101 = .ok (.aload_n 0, 1) from by decide +kernel) rfl).trans ?_
  refine (r_dupR (show decode (zb m_Book_readLines) 102 = .ok (.dup, 1) from by decide +kernel)).trans ?_
  refine (r_getI (show decode (zb m_Book_readLines) 103 = .ok (.getfield 19, 3) from by decide +kernel) rfl rfl h1).trans ?_
  refine (r_iconst (v := (1 : Int32)) (show decode (zb m_Book_readLines) 106 = .ok (.iconst (1), 1) from by decide +kernel) (by decide)).trans ?_
  refine (r_iload 5 (show decode (zb m_Book_readLines) 107 = .ok (.iload 5, 2) from by decide +kernel) rfl).trans ?_
  refine (r_ishl (show decode (zb m_Book_readLines) 109 = .ok (.ishl, 1) from by decide +kernel)).trans ?_
  refine (r_ior (show decode (zb m_Book_readLines) 110 = .ok (.ior, 1) from by decide +kernel)).trans ?_
  refine (r_putI (show decode (zb m_Book_readLines) 111 = .ok (.putfield 19, 3) from by decide +kernel) rfl rfl rfl h1).trans ?_
  refine (r_aloadn 0 (show decode (zb m_Book_readLines) 114 = .ok (.aload_n 0, 1) from by decide +kernel) rfl).trans ?_
  refine (r_dupR (show decode (zb m_Book_readLines) 115 = .ok (.dup, 1) from by decide +kernel)).trans ?_
  refine (r_getI (show decode (zb m_Book_readLines) 116 = .ok (.getfield 15, 3) from by decide +kernel) rfl rfl h1).trans ?_
  refine (r_iconst (v := (1 : Int32)) (show decode (zb m_Book_readLines) 119 = .ok (.iconst (1), 1) from by decide +kernel) (by decide)).trans ?_
  refine (r_iadd (show decode (zb m_Book_readLines) 120 = .ok (.iadd, 1) from by decide +kernel)).trans ?_
  exact r_putI (show decode (zb m_Book_readLines) 121 = .ok (.putfield 15, 3) from by decide +kernel) rfl rfl rfl h1
theorem b_Book_readLines_124 {C : CF} {d : Nat} {σ : HP} {x3 : Int32} {l0 : Option Value} {l1 : Option Value} {l2 : Option Value} {l4 : Option Value} {l5 : Option Value} {l6 : Option Value}  : runF C d m_Book_readLines (124, [l0, l1, l2, some (.int x3), l4, l5, l6], [], σ) = runF C d m_Book_readLines (6, [l0, l1, l2, some (.int (x3 + (1 : Int32))), l4, l5, l6], [], σ) := by
  refine (r_iinc 3 (v := (1 : Int32)) (show decode (zb m_Book_readLines) 124 = .ok (.iinc 3 (1), 3) from by decide +kernel) rfl rfl (by decide)).trans ?_
  exact r_goto 6 (show decode (zb m_Book_readLines) 127 = .ok (.goto (-121), 3) from by decide +kernel) rfl
theorem b_Book_readLines_130 {C : CF} {d : Nat} {σ : HP} {l0 : Option Value} {l1 : Option Value} {l2 : Option Value} {l3 : Option Value} {l4 : Option Value} {l5 : Option Value} {l6 : Option Value}  : runF C d m_Book_readLines (130, [l0, l1, l2, l3, l4, l5, l6], [], σ) = some (.inl none, σ) := by
  exact r_vret (show decode (zb m_Book_readLines) 130 = .ok (.return_, 1) from by decide +kernel) rfl
theorem e_Book_hasLine {d : Nat} {σ : HP} {a0 : Nat} {x1 : Int32} : callF (d + 1) m_Book_hasLine [.ref a0, .int x1] σ = runF (callF d) d m_Book_hasLine (0, [some (.ref a0), some (.int x1)], [], σ) := callF_in rfl rfl
theorem b_Book_hasLine_0 {C : CF} {d : Nat} {σ : HP} {a0 : Nat} {x1 : Int32} (h1 : a0 % 64 = 0) : runF C d m_Book_hasLine (0, [some (.ref a0), some (.int x1)], [], σ) = bkN C d m_Book_hasLine 5 [some (.ref a0), some (.int x1)] [] (C m_PL_isIn [.int (gI σ a0 2), .int x1] σ) := by
  refine (r_aloadn 0 (show decode (zb m_Book_hasLine) 0 = .ok (.aload_n 0, 1) from by decide +kernel) rfl).trans ?_
  refine (r_getI (show decode (zb m_Book_hasLine) 1 = .ok (.getfield 19, 3) from by decide +kernel) rfl rfl h1).trans ?_
  refine (r_iloadn 1 (show decode (zb m_Book_hasLine) 4 = .ok (.iload_n 1, 1) from by decide +kernel) rfl).trans ?_
  exact r_stat (args := [.int (gI σ a0 2), .int x1]) (rest := []) (show decode (zb m_Book_hasLine) 5 = .ok (.invokestatic 70, 3) from by decide +kernel) rfl (by decide) rfl rfl
theorem b_Book_hasLine_8 {C : CF} {d : Nat} {σ : HP} {s0 : Int32} {l0 : Option Value} {l1 : Option Value} (h1 : s0 = 0 ∨ s0 = 1) : runF C d m_Book_hasLine (8, [l0, l1], [.int s0], σ) = some (.inl (some (.int s0)), σ) := by
  exact r_bret (show decode (zb m_Book_hasLine) 8 = .ok (.ireturn, 1) from by decide +kernel) rfl h1
theorem e_Book_findPairs {d : Nat} {σ : HP} {a0 : Nat} {a1 : Nat} : callF (d + 1) m_Book_findPairs [.ref a0, .ref a1] σ = runF (callF d) d m_Book_findPairs (0, [some (.ref a0), some (.ref a1), none, none, none], [], σ) := callF_in rfl rfl
theorem b_Book_findPairs_0 {C : CF} {d : Nat} {σ : HP} {a0 : Nat} {l1 : Option Value} {l2 : Option Value} {l3 : Option Value} {l4 : Option Value} (h1 : a0 % 64 = 0) : runF C d m_Book_findPairs (0, [some (.ref a0), l1, l2, l3, l4], [], σ) = runF C d m_Book_findPairs (7, [some (.ref a0), l1, some (.int ((0 : Int32))), l3, l4], [], wI σ a0 6 (0 : Int32)) := by
  refine (r_aloadn 0 (show decode (zb m_Book_findPairs) 0 = .ok (.aload_n 0, 1) from by decide +kernel) rfl).trans ?_
  refine (r_iconst (v := (0 : Int32)) (show decode (zb m_Book_findPairs) 1 = .ok (.iconst (0), 1) from by decide +kernel) (by decide)).trans ?_
  refine (r_putI (show decode (zb m_Book_findPairs) 2 = .ok (.putfield 31, 3) from by decide +kernel) rfl rfl rfl h1).trans ?_
  refine (r_iconst (v := (0 : Int32)) (show decode (zb m_Book_findPairs) 5 = .ok (.iconst (0), 1) from by decide +kernel) (by decide)).trans ?_
  exact r_istoren 2 (show decode (zb m_Book_findPairs) 6 = .ok (.istore_n 2, 1) from by decide +kernel) rfl
theorem b_Book_findPairs_7 {C : CF} {d : Nat} {σ : HP} {x2 : Int32} {a1 : Nat} {l0 : Option Value} {l3 : Option Value} {l4 : Option Value} (h1 : a1 % 64 = 5) (h2 : (gR σ a1 0).isSome = true) (h3 : (dr (gR σ a1 0)) % 64 = 2) : runF C d m_Book_findPairs (7, [l0, some (.ref a1), some (.int x2), l3, l4], [], σ) = if (gI σ (dr (gR σ a1 0)) 1) ≤ x2 then runF C d m_Book_findPairs (92, [l0, some (.ref a1), some (.int x2), l3, l4], [], σ) else runF C d m_Book_findPairs (18, [l0, some (.ref a1), some (.int x2), l3, l4], [], σ) := by
  refine (r_iloadn 2 (show decode (zb m_Book_findPairs) 7 = .ok (.iload_n 2, 1) from by decide +kernel) rfl).trans ?_
  refine (r_aloadn 1 (show decode (zb m_Book_findPairs) 8 = .ok (.aload_n 1, 1) from by decide +kernel) rfl).trans ?_
  refine (r_getR (show decode (zb m_Book_findPairs) 9 = .ok (.getfield 74, 3) from by decide +kernel) rfl rfl h1 h2).trans ?_
  refine (r_getI (show decode (zb m_Book_findPairs) 12 = .ok (.getfield 80, 3) from by decide +kernel) rfl rfl h3).trans ?_
  exact r_icmp_ge 92 (show decode (zb m_Book_findPairs) 15 = .ok (.if_icmp .ge (77), 3) from by decide +kernel) rfl
theorem b_Book_findPairs_18 {C : CF} {d : Nat} {σ : HP} {a0 : Nat} {a1 : Nat} {x2 : Int32} {l3 : Option Value} {l4 : Option Value} (h1 : a0 % 64 = 0) : runF C d m_Book_findPairs (18, [some (.ref a0), some (.ref a1), some (.int x2), l3, l4], [], σ) = bk C d m_Book_findPairs 21 [some (.ref a0), some (.ref a1), some (.int x2), l3, l4] [] (C m_Book_areOthersRight [.ref a0, .ref a1, .int x2] σ) := by
  refine (r_aloadn 0 (show decode (zb m_Book_findPairs) 18 = .ok (.aload_n 0, 1) from by decide +kernel) rfl).trans ?_
  refine (r_aloadn 1 (show decode (zb m_Book_findPairs) 19 = .ok (.aload_n 1, 1) from by decide +kernel) rfl).trans ?_
  refine (r_iloadn 2 (show decode (zb m_Book_findPairs) 20 = .ok (.iload_n 2, 1) from by decide +kernel) rfl).trans ?_
  exact r_virt (args := [.ref a1, .int x2]) (rest := []) (show decode (zb m_Book_findPairs) 21 = .ok (.invokevirtual 83, 3) from by decide +kernel) rfl rfl rfl h1
theorem b_Book_findPairs_24 {C : CF} {d : Nat} {σ : HP} {s0 : Int32} {l0 : Option Value} {l1 : Option Value} {l2 : Option Value} {l3 : Option Value} {l4 : Option Value}  : runF C d m_Book_findPairs (24, [l0, l1, l2, l3, l4], [.int s0], σ) = if ¬ s0 = 0 then runF C d m_Book_findPairs (30, [l0, l1, l2, l3, l4], [], σ) else runF C d m_Book_findPairs (27, [l0, l1, l2, l3, l4], [], σ) := by
  exact r_if_ne 30 (show decode (zb m_Book_findPairs) 24 = .ok (.ifCond .ne (6), 3) from by decide +kernel) rfl
theorem b_Book_findPairs_27 {C : CF} {d : Nat} {σ : HP} {l0 : Option Value} {l1 : Option Value} {l2 : Option Value} {l3 : Option Value} {l4 : Option Value}  : runF C d m_Book_findPairs (27, [l0, l1, l2, l3, l4], [], σ) = runF C d m_Book_findPairs (86, [l0, l1, l2, l3, l4], [], σ) := by
  exact r_goto 86 (show decode (zb m_Book_findPairs) 27 = .ok (.goto (59), 3) from by decide +kernel) rfl
theorem b_Book_findPairs_30 {C : CF} {d : Nat} {σ : HP} {l0 : Option Value} {l1 : Option Value} {l2 : Option Value} {l3 : Option Value} {l4 : Option Value}  : runF C d m_Book_findPairs (30, [l0, l1, l2, l3, l4], [], σ) = runF C d m_Book_findPairs (32, [l0, l1, l2, some (.int ((0 : Int32))), l4], [], σ) := by
  refine (r_iconst (v := (0 : Int32)) (show decode (zb m_Book_findPairs) 30 = .ok (.iconst (0), 1) from by decide +kernel) (by decide)).trans ?_
  exact r_istoren 3 (show decode (zb m_Book_findPairs) 31 = .ok (.istore_n 3, 1) from by decide +kernel) rfl
theorem b_Book_findPairs_32 {C : CF} {d : Nat} {σ : HP} {x3 : Int32} {a1 : Nat} {l0 : Option Value} {l2 : Option Value} {l4 : Option Value} (h1 : a1 % 64 = 5) (h2 : (gR σ a1 0).isSome = true) (h3 : (dr (gR σ a1 0)) % 64 = 2) : runF C d m_Book_findPairs (32, [l0, some (.ref a1), l2, some (.int x3), l4], [], σ) = if (gI σ (dr (gR σ a1 0)) 2) ≤ x3 then runF C d m_Book_findPairs (86, [l0, some (.ref a1), l2, some (.int x3), l4], [], σ) else runF C d m_Book_findPairs (43, [l0, some (.ref a1), l2, some (.int x3), l4], [], σ) := by
  refine (r_iloadn 3 (show decode (zb m_Book_findPairs) 32 = .ok (.iload_n 3, 1) from by decide +kernel) rfl).trans ?_
  refine (r_aloadn 1 (show decode (zb m_Book_findPairs) 33 = .ok (.aload_n 1, 1) from by decide +kernel) rfl).trans ?_
  refine (r_getR (show decode (zb m_Book_findPairs) 34 = .ok (.getfield 74, 3) from by decide +kernel) rfl rfl h1 h2).trans ?_
  refine (r_getI (show decode (zb m_Book_findPairs) 37 = .ok (.getfield 87, 3) from by decide +kernel) rfl rfl h3).trans ?_
  exact r_icmp_ge 86 (show decode (zb m_Book_findPairs) 40 = .ok (.if_icmp .ge (46), 3) from by decide +kernel) rfl
theorem b_Book_findPairs_43 {C : CF} {d : Nat} {σ : HP} {a1 : Nat} {x2 : Int32} {x3 : Int32} {l0 : Option Value} {l4 : Option Value} (h1 : a1 % 64 = 5) : runF C d m_Book_findPairs (43, [l0, some (.ref a1), some (.int x2), some (.int x3), l4], [], σ) = bk C d m_Book_findPairs 46 [l0, some (.ref a1), some (.int x2), some (.int x3), l4] [] (C m_Lift_heavyIfSaid [.ref a1, .int x2, .int x3] σ) := by
  refine (r_aloadn 1 (show decode (zb m_Book_findPairs) 43 = .ok (.aload_n 1, 1) from by decide +kernel) rfl).trans ?_
  refine (r_iloadn 2 (show decode (zb m_Book_findPairs) 44 = .ok (.iload_n 2, 1) from by decide +kernel) rfl).trans ?_
  refine (r_iloadn 3 (show decode (zb m_Book_findPairs) 45 = .ok (.iload_n 3, 1) from by decide +kernel) rfl).trans ?_
  exact r_virt (args := [.int x2, .int x3]) (rest := []) (show decode (zb m_Book_findPairs) 46 = .ok (.invokevirtual 90, 3) from by decide +kernel) rfl rfl rfl h1
theorem b_Book_findPairs_49 {C : CF} {d : Nat} {σ : HP} {s0 : Int32} {a0 : Nat} {x2 : Int32} {l1 : Option Value} {l3 : Option Value} {l4 : Option Value} (h1 : a0 % 64 = 0) : runF C d m_Book_findPairs (49, [some (.ref a0), l1, some (.int x2), l3, l4], [.int s0], σ) = bk C d m_Book_findPairs 53 [some (.ref a0), l1, some (.int x2), l3, some (.int s0)] [] (C m_Book_hasLine [.ref a0, .int x2] σ) := by
  refine (r_istore 4 (show decode (zb m_Book_findPairs) 49 = .ok (.istore 4, 2) from by decide +kernel) rfl).trans ?_
  refine (r_aloadn 0 (show decode (zb m_Book_findPairs) 51 = .ok (.aload_n 0, 1) from by decide +kernel) rfl).trans ?_
  refine (r_iloadn 2 (show decode (zb m_Book_findPairs) 52 = .ok (.iload_n 2, 1) from by decide +kernel) rfl).trans ?_
  exact r_virt (args := [.int x2]) (rest := []) (show decode (zb m_Book_findPairs) 53 = .ok (.invokevirtual 54, 3) from by decide +kernel) rfl rfl rfl h1
theorem b_Book_findPairs_56 {C : CF} {d : Nat} {σ : HP} {s0 : Int32} {l0 : Option Value} {l1 : Option Value} {l2 : Option Value} {l3 : Option Value} {l4 : Option Value}  : runF C d m_Book_findPairs (56, [l0, l1, l2, l3, l4], [.int s0], σ) = if s0 = 0 then runF C d m_Book_findPairs (72, [l0, l1, l2, l3, l4], [], σ) else runF C d m_Book_findPairs (59, [l0, l1, l2, l3, l4], [], σ) := by
  exact r_if_eq 72 (show decode (zb m_Book_findPairs) 56 = .ok (.ifCond .eq (16), 3) from by decide +kernel) rfl
theorem b_Book_findPairs_59 {C : CF} {d : Nat} {σ : HP} {a0 : Nat} {x2 : Int32} {l1 : Option Value} {l3 : Option Value} {l4 : Option Value} (h1 : a0 % 64 = 0) (h2 : (gR σ a0 0).isSome = true) : runF C d m_Book_findPairs (59, [some (.ref a0), l1, some (.int x2), l3, l4], [], σ) = bkN C d m_Book_findPairs 64 [some (.ref a0), l1, some (.int x2), l3, l4] [] (C m_PL_at [.ref (dr (gR σ a0 0)), .int x2] σ) := by
  refine (r_aloadn 0 (show decode (zb m_Book_findPairs) 59 = .ok (.aload_n 0, 1) from by decide +kernel) rfl).trans ?_
  refine (r_getR (show decode (zb m_Book_findPairs) 60 = .ok (.getfield 9, 3) from by decide +kernel) rfl rfl h1 h2).trans ?_
  refine (r_iloadn 2 (show decode (zb m_Book_findPairs) 63 = .ok (.iload_n 2, 1) from by decide +kernel) rfl).trans ?_
  exact r_stat (args := [.ref (dr (gR σ a0 0)), .int x2]) (rest := []) (show decode (zb m_Book_findPairs) 64 = .ok (.invokestatic 93, 3) from by decide +kernel) rfl (by decide) rfl rfl
theorem b_Book_findPairs_67 {C : CF} {d : Nat} {σ : HP} {s0 : Int32} {x4 : Int32} {l0 : Option Value} {l1 : Option Value} {l2 : Option Value} {l3 : Option Value}  : runF C d m_Book_findPairs (67, [l0, l1, l2, l3, some (.int x4)], [.int s0], σ) = if ¬ s0 = x4 then runF C d m_Book_findPairs (80, [l0, l1, l2, l3, some (.int x4)], [], σ) else runF C d m_Book_findPairs (72, [l0, l1, l2, l3, some (.int x4)], [], σ) := by
  refine (r_iload 4 (show decode (zb m_Book_findPairs) 67 = .ok (.iload 4, 2) from by decide +kernel) rfl).trans ?_
  exact r_icmp_ne 80 (show decode (zb m_Book_findPairs) 69 = .ok (.if_icmp .ne (11), 3) from by decide +kernel) rfl
theorem b_Book_findPairs_72 {C : CF} {d : Nat} {σ : HP} {a0 : Nat} {x2 : Int32} {x3 : Int32} {x4 : Int32} {l1 : Option Value} (h1 : a0 % 64 = 0) : runF C d m_Book_findPairs (72, [some (.ref a0), l1, some (.int x2), some (.int x3), some (.int x4)], [], σ) = bk C d m_Book_findPairs 77 [some (.ref a0), l1, some (.int x2), some (.int x3), some (.int x4)] [] (C m_Book_keepPair [.ref a0, .int x2, .int x3, .int x4] σ) := by
  refine (r_aloadn 0 (show decode (zb m_Book_findPairs) 72 = .ok (.aload_n 0, 1) from by decide +kernel) rfl).trans ?_
  refine (r_iloadn 2 (show decode (zb m_Book_findPairs) 73 = .ok (.iload_n 2, 1) from by decide +kernel) rfl).trans ?_
  refine (r_iloadn 3 (show decode (zb m_Book_findPairs) 74 = .ok (.iload_n 3, 1) from by decide +kernel) rfl).trans ?_
  refine (r_iload 4 (show decode (zb m_Book_findPairs) 75 = .ok (.iload 4, 2) from by decide +kernel) rfl).trans ?_
  exact r_virt (args := [.int x2, .int x3, .int x4]) (rest := []) (show decode (zb m_Book_findPairs) 77 = .ok (.invokevirtual 97, 3) from by decide +kernel) rfl rfl rfl h1
theorem b_Book_findPairs_80 {C : CF} {d : Nat} {σ : HP} {x3 : Int32} {l0 : Option Value} {l1 : Option Value} {l2 : Option Value} {l4 : Option Value}  : runF C d m_Book_findPairs (80, [l0, l1, l2, some (.int x3), l4], [], σ) = runF C d m_Book_findPairs (32, [l0, l1, l2, some (.int (x3 + (1 : Int32))), l4], [], σ) := by
  refine (r_iinc 3 (v := (1 : Int32)) (show decode (zb m_Book_findPairs) 80 = .ok (.iinc 3 (1), 3) from by decide +kernel) rfl rfl (by decide)).trans ?_
  exact r_goto 32 (show decode (zb m_Book_findPairs) 83 = .ok (.goto (-51), 3) from by decide +kernel) rfl
theorem b_Book_findPairs_86 {C : CF} {d : Nat} {σ : HP} {x2 : Int32} {l0 : Option Value} {l1 : Option Value} {l3 : Option Value} {l4 : Option Value}  : runF C d m_Book_findPairs (86, [l0, l1, some (.int x2), l3, l4], [], σ) = runF C d m_Book_findPairs (7, [l0, l1, some (.int (x2 + (1 : Int32))), l3, l4], [], σ) := by
  refine (r_iinc 2 (v := (1 : Int32)) (show decode (zb m_Book_findPairs) 86 = .ok (.iinc 2 (1), 3) from by decide +kernel) rfl rfl (by decide)).trans ?_
  exact r_goto 7 (show decode (zb m_Book_findPairs) 89 = .ok (.goto (-82), 3) from by decide +kernel) rfl
theorem b_Book_findPairs_92 {C : CF} {d : Nat} {σ : HP} {a0 : Nat} {l1 : Option Value} {l2 : Option Value} {l3 : Option Value} {l4 : Option Value} (h1 : a0 % 64 = 0) : runF C d m_Book_findPairs (92, [some (.ref a0), l1, l2, l3, l4], [], σ) = some (.inl (some (.int (gI σ a0 6))), σ) := by
  refine (r_aloadn 0 (show decode (zb m_Book_findPairs) 92 = .ok (.aload_n 0, 1) from by decide +kernel) rfl).trans ?_
  refine (r_getI (show decode (zb m_Book_findPairs) 93 = .ok (.getfield 31, 3) from by decide +kernel) rfl rfl h1).trans ?_
  exact r_iret (show decode (zb m_Book_findPairs) 96 = .ok (.ireturn, 1) from by decide +kernel) rfl rfl
theorem e_Book_areOthersRight {d : Nat} {σ : HP} {a0 : Nat} {a1 : Nat} {x2 : Int32} : callF (d + 1) m_Book_areOthersRight [.ref a0, .ref a1, .int x2] σ = runF (callF d) d m_Book_areOthersRight (0, [some (.ref a0), some (.ref a1), some (.int x2), none], [], σ) := callF_in rfl rfl
theorem b_Book_areOthersRight_0 {C : CF} {d : Nat} {σ : HP} {l0 : Option Value} {l1 : Option Value} {l2 : Option Value} {l3 : Option Value}  : runF C d m_Book_areOthersRight (0, [l0, l1, l2, l3], [], σ) = runF C d m_Book_areOthersRight (2, [l0, l1, l2, some (.int ((0 : Int32)))], [], σ) := by
  refine (r_iconst (v := (0 : Int32)) (show decode (zb m_Book_areOthersRight) 0 = .ok (.iconst (0), 1) from by decide +kernel) (by decide)).trans ?_
  exact r_istoren 3 (show decode (zb m_Book_areOthersRight) 1 = .ok (.istore_n 3, 1) from by decide +kernel) rfl
theorem b_Book_areOthersRight_2 {C : CF} {d : Nat} {σ : HP} {x3 : Int32} {a1 : Nat} {l0 : Option Value} {l2 : Option Value} (h1 : a1 % 64 = 5) (h2 : (gR σ a1 0).isSome = true) (h3 : (dr (gR σ a1 0)) % 64 = 2) : runF C d m_Book_areOthersRight (2, [l0, some (.ref a1), l2, some (.int x3)], [], σ) = if (gI σ (dr (gR σ a1 0)) 1) ≤ x3 then runF C d m_Book_areOthersRight (50, [l0, some (.ref a1), l2, some (.int x3)], [], σ) else runF C d m_Book_areOthersRight (13, [l0, some (.ref a1), l2, some (.int x3)], [], σ) := by
  refine (r_iloadn 3 (show decode (zb m_Book_areOthersRight) 2 = .ok (.iload_n 3, 1) from by decide +kernel) rfl).trans ?_
  refine (r_aloadn 1 (show decode (zb m_Book_areOthersRight) 3 = .ok (.aload_n 1, 1) from by decide +kernel) rfl).trans ?_
  refine (r_getR (show decode (zb m_Book_areOthersRight) 4 = .ok (.getfield 74, 3) from by decide +kernel) rfl rfl h1 h2).trans ?_
  refine (r_getI (show decode (zb m_Book_areOthersRight) 7 = .ok (.getfield 80, 3) from by decide +kernel) rfl rfl h3).trans ?_
  exact r_icmp_ge 50 (show decode (zb m_Book_areOthersRight) 10 = .ok (.if_icmp .ge (40), 3) from by decide +kernel) rfl
theorem b_Book_areOthersRight_13 {C : CF} {d : Nat} {σ : HP} {x3 : Int32} {x2 : Int32} {l0 : Option Value} {l1 : Option Value}  : runF C d m_Book_areOthersRight (13, [l0, l1, some (.int x2), some (.int x3)], [], σ) = if x3 = x2 then runF C d m_Book_areOthersRight (44, [l0, l1, some (.int x2), some (.int x3)], [], σ) else runF C d m_Book_areOthersRight (18, [l0, l1, some (.int x2), some (.int x3)], [], σ) := by
  refine (r_iloadn 3 (show decode (zb m_Book_areOthersRight) 13 = .ok (.iload_n 3, 1) from by decide +kernel) rfl).trans ?_
  refine (r_iloadn 2 (show decode (zb m_Book_areOthersRight) 14 = .ok (.iload_n 2, 1) from by decide +kernel) rfl).trans ?_
  exact r_icmp_eq 44 (show decode (zb m_Book_areOthersRight) 15 = .ok (.if_icmp .eq (29), 3) from by decide +kernel) rfl
theorem b_Book_areOthersRight_18 {C : CF} {d : Nat} {σ : HP} {a0 : Nat} {x3 : Int32} {l1 : Option Value} {l2 : Option Value} (h1 : a0 % 64 = 0) : runF C d m_Book_areOthersRight (18, [some (.ref a0), l1, l2, some (.int x3)], [], σ) = bk C d m_Book_areOthersRight 20 [some (.ref a0), l1, l2, some (.int x3)] [] (C m_Book_hasLine [.ref a0, .int x3] σ) := by
  refine (r_aloadn 0 (show decode (zb m_Book_areOthersRight) 18 = .ok (.aload_n 0, 1) from by decide +kernel) rfl).trans ?_
  refine (r_iloadn 3 (show decode (zb m_Book_areOthersRight) 19 = .ok (.iload_n 3, 1) from by decide +kernel) rfl).trans ?_
  exact r_virt (args := [.int x3]) (rest := []) (show decode (zb m_Book_areOthersRight) 20 = .ok (.invokevirtual 54, 3) from by decide +kernel) rfl rfl rfl h1
theorem b_Book_areOthersRight_23 {C : CF} {d : Nat} {σ : HP} {s0 : Int32} {l0 : Option Value} {l1 : Option Value} {l2 : Option Value} {l3 : Option Value}  : runF C d m_Book_areOthersRight (23, [l0, l1, l2, l3], [.int s0], σ) = if s0 = 0 then runF C d m_Book_areOthersRight (44, [l0, l1, l2, l3], [], σ) else runF C d m_Book_areOthersRight (26, [l0, l1, l2, l3], [], σ) := by
  exact r_if_eq 44 (show decode (zb m_Book_areOthersRight) 23 = .ok (.ifCond .eq (21), 3) from by decide +kernel) rfl
theorem b_Book_areOthersRight_26 {C : CF} {d : Nat} {σ : HP} {a0 : Nat} {x3 : Int32} {l1 : Option Value} {l2 : Option Value} (h1 : a0 % 64 = 0) (h2 : (gR σ a0 0).isSome = true) : runF C d m_Book_areOthersRight (26, [some (.ref a0), l1, l2, some (.int x3)], [], σ) = bkN C d m_Book_areOthersRight 31 [some (.ref a0), l1, l2, some (.int x3)] [] (C m_PL_at [.ref (dr (gR σ a0 0)), .int x3] σ) := by
  refine (r_aloadn 0 (show decode (zb m_Book_areOthersRight) 26 = .ok (.aload_n 0, 1) from by decide +kernel) rfl).trans ?_
  refine (r_getR (show decode (zb m_Book_areOthersRight) 27 = .ok (.getfield 9, 3) from by decide +kernel) rfl rfl h1 h2).trans ?_
  refine (r_iloadn 3 (show decode (zb m_Book_areOthersRight) 30 = .ok (.iload_n 3, 1) from by decide +kernel) rfl).trans ?_
  exact r_stat (args := [.ref (dr (gR σ a0 0)), .int x3]) (rest := []) (show decode (zb m_Book_areOthersRight) 31 = .ok (.invokestatic 93, 3) from by decide +kernel) rfl (by decide) rfl rfl
theorem b_Book_areOthersRight_34 {C : CF} {d : Nat} {σ : HP} {s0 : Int32} {a1 : Nat} {x3 : Int32} {l0 : Option Value} {l2 : Option Value} (h1 : a1 % 64 = 5) : runF C d m_Book_areOthersRight (34, [l0, some (.ref a1), l2, some (.int x3)], [.int s0], σ) = bk C d m_Book_areOthersRight 36 [l0, some (.ref a1), l2, some (.int x3)] [.int s0] (C m_Lift_heavyOf [.ref a1, .int x3] σ) := by
  refine (r_aloadn 1 (show decode (zb m_Book_areOthersRight) 34 = .ok (.aload_n 1, 1) from by decide +kernel) rfl).trans ?_
  refine (r_iloadn 3 (show decode (zb m_Book_areOthersRight) 35 = .ok (.iload_n 3, 1) from by decide +kernel) rfl).trans ?_
  exact r_virt (args := [.int x3]) (rest := [.int s0]) (show decode (zb m_Book_areOthersRight) 36 = .ok (.invokevirtual 101, 3) from by decide +kernel) rfl rfl rfl h1
theorem b_Book_areOthersRight_39 {C : CF} {d : Nat} {σ : HP} {s0 : Int32} {s1 : Int32} {l0 : Option Value} {l1 : Option Value} {l2 : Option Value} {l3 : Option Value}  : runF C d m_Book_areOthersRight (39, [l0, l1, l2, l3], [.int s0, .int s1], σ) = if s1 = s0 then runF C d m_Book_areOthersRight (44, [l0, l1, l2, l3], [], σ) else runF C d m_Book_areOthersRight (42, [l0, l1, l2, l3], [], σ) := by
  exact r_icmp_eq 44 (show decode (zb m_Book_areOthersRight) 39 = .ok (.if_icmp .eq (5), 3) from by decide +kernel) rfl
theorem b_Book_areOthersRight_42 {C : CF} {d : Nat} {σ : HP} {l0 : Option Value} {l1 : Option Value} {l2 : Option Value} {l3 : Option Value}  : runF C d m_Book_areOthersRight (42, [l0, l1, l2, l3], [], σ) = some (.inl (some (.int (0 : Int32))), σ) := by
  refine (r_iconst (v := (0 : Int32)) (show decode (zb m_Book_areOthersRight) 42 = .ok (.iconst (0), 1) from by decide +kernel) (by decide)).trans ?_
  exact r_bret (show decode (zb m_Book_areOthersRight) 43 = .ok (.ireturn, 1) from by decide +kernel) rfl (by decide)
theorem b_Book_areOthersRight_44 {C : CF} {d : Nat} {σ : HP} {x3 : Int32} {l0 : Option Value} {l1 : Option Value} {l2 : Option Value}  : runF C d m_Book_areOthersRight (44, [l0, l1, l2, some (.int x3)], [], σ) = runF C d m_Book_areOthersRight (2, [l0, l1, l2, some (.int (x3 + (1 : Int32)))], [], σ) := by
  refine (r_iinc 3 (v := (1 : Int32)) (show decode (zb m_Book_areOthersRight) 44 = .ok (.iinc 3 (1), 3) from by decide +kernel) rfl rfl (by decide)).trans ?_
  exact r_goto 2 (show decode (zb m_Book_areOthersRight) 47 = .ok (.goto (-45), 3) from by decide +kernel) rfl
theorem b_Book_areOthersRight_50 {C : CF} {d : Nat} {σ : HP} {l0 : Option Value} {l1 : Option Value} {l2 : Option Value} {l3 : Option Value}  : runF C d m_Book_areOthersRight (50, [l0, l1, l2, l3], [], σ) = some (.inl (some (.int (1 : Int32))), σ) := by
  refine (r_iconst (v := (1 : Int32)) (show decode (zb m_Book_areOthersRight) 50 = .ok (.iconst (1), 1) from by decide +kernel) (by decide)).trans ?_
  exact r_bret (show decode (zb m_Book_areOthersRight) 51 = .ok (.ireturn, 1) from by decide +kernel) rfl (by decide)
theorem e_Book_keepPair {d : Nat} {σ : HP} {a0 : Nat} {x1 : Int32} {x2 : Int32} {x3 : Int32} : callF (d + 1) m_Book_keepPair [.ref a0, .int x1, .int x2, .int x3] σ = runF (callF d) d m_Book_keepPair (0, [some (.ref a0), some (.int x1), some (.int x2), some (.int x3)], [], σ) := callF_in rfl rfl
theorem b_Book_keepPair_0 {C : CF} {d : Nat} {σ : HP} {a0 : Nat} {x1 : Int32} {l2 : Option Value} {l3 : Option Value} (h1 : a0 % 64 = 0) (h2 : (gR σ a0 3).isSome = true) : runF C d m_Book_keepPair (0, [some (.ref a0), some (.int x1), l2, l3], [], σ) = bkN C d m_Book_keepPair 9 [some (.ref a0), some (.int x1), l2, l3] [] (C m_PL_put [.ref (dr (gR σ a0 3)), .int (gI σ a0 6), .int x1] σ) := by
  refine (r_aloadn 0 (show decode (zb m_Book_keepPair) 0 = .ok (.aload_n 0, 1) from by decide +kernel) rfl).trans ?_
  refine (r_getR (show decode (zb m_Book_keepPair) 1 = .ok (.getfield 22, 3) from by decide +kernel) rfl rfl h1 h2).trans ?_
  refine (r_aloadn 0 (show decode (zb m_Book_keepPair) 4 = .ok (.aload_n 0, 1) from by decide +kernel) rfl).trans ?_
  refine (r_getI (show decode (zb m_Book_keepPair) 5 = .ok (.getfield 31, 3) from by decide +kernel) rfl rfl h1).trans ?_
  refine (r_iloadn 1 (show decode (zb m_Book_keepPair) 8 = .ok (.iload_n 1, 1) from by decide +kernel) rfl).trans ?_
  exact r_stat (args := [.ref (dr (gR σ a0 3)), .int (gI σ a0 6), .int x1]) (rest := []) (show decode (zb m_Book_keepPair) 9 = .ok (.invokestatic 66, 3) from by decide +kernel) rfl (by decide) rfl rfl
theorem b_Book_keepPair_12 {C : CF} {d : Nat} {σ : HP} {a0 : Nat} {x2 : Int32} {l1 : Option Value} {l3 : Option Value} (h1 : a0 % 64 = 0) (h2 : (gR σ a0 4).isSome = true) : runF C d m_Book_keepPair (12, [some (.ref a0), l1, some (.int x2), l3], [], σ) = bkN C d m_Book_keepPair 21 [some (.ref a0), l1, some (.int x2), l3] [] (C m_PL_put [.ref (dr (gR σ a0 4)), .int (gI σ a0 6), .int x2] σ) := by
  refine (r_aloadn 0 (show decode (zb m_Book_keepPair) 12 = .ok (.aload_n 0, 1) from by decide +kernel) rfl).trans ?_
  refine (r_getR (show decode (zb m_Book_keepPair) 13 = .ok (.getfield 25, 3) from by decide +kernel) rfl rfl h1 h2).trans ?_
  refine (r_aloadn 0 (show decode (zb m_Book_keepPair) 16 = .ok (.aload_n 0, 1) from by decide +kernel) rfl).trans ?_
  refine (r_getI (show decode (zb m_Book_keepPair) 17 = .ok (.getfield 31, 3) from by decide +kernel) rfl rfl h1).trans ?_
  refine (r_iloadn 2 (show decode (zb m_Book_keepPair) 20 = .ok (.iload_n 2, 1) from by decide +kernel) rfl).trans ?_
  exact r_stat (args := [.ref (dr (gR σ a0 4)), .int (gI σ a0 6), .int x2]) (rest := []) (show decode (zb m_Book_keepPair) 21 = .ok (.invokestatic 66, 3) from by decide +kernel) rfl (by decide) rfl rfl
theorem b_Book_keepPair_24 {C : CF} {d : Nat} {σ : HP} {a0 : Nat} {x3 : Int32} {l1 : Option Value} {l2 : Option Value} (h1 : a0 % 64 = 0) (h2 : (gR σ a0 5).isSome = true) : runF C d m_Book_keepPair (24, [some (.ref a0), l1, l2, some (.int x3)], [], σ) = bkN C d m_Book_keepPair 33 [some (.ref a0), l1, l2, some (.int x3)] [] (C m_PL_put [.ref (dr (gR σ a0 5)), .int (gI σ a0 6), .int x3] σ) := by
  refine (r_aloadn 0 (show decode (zb m_Book_keepPair) 24 = .ok (.aload_n 0, 1) from by decide +kernel) rfl).trans ?_
  refine (r_getR (show decode (zb m_Book_keepPair) 25 = .ok (.getfield 28, 3) from by decide +kernel) rfl rfl h1 h2).trans ?_
  refine (r_aloadn 0 (show decode (zb m_Book_keepPair) 28 = .ok (.aload_n 0, 1) from by decide +kernel) rfl).trans ?_
  refine (r_getI (show decode (zb m_Book_keepPair) 29 = .ok (.getfield 31, 3) from by decide +kernel) rfl rfl h1).trans ?_
  refine (r_iloadn 3 (show decode (zb m_Book_keepPair) 32 = .ok (.iload_n 3, 1) from by decide +kernel) rfl).trans ?_
  exact r_stat (args := [.ref (dr (gR σ a0 5)), .int (gI σ a0 6), .int x3]) (rest := []) (show decode (zb m_Book_keepPair) 33 = .ok (.invokestatic 66, 3) from by decide +kernel) rfl (by decide) rfl rfl
theorem b_Book_keepPair_36 {C : CF} {d : Nat} {σ : HP} {a0 : Nat} {l1 : Option Value} {l2 : Option Value} {l3 : Option Value} (h1 : a0 % 64 = 0) : runF C d m_Book_keepPair (36, [some (.ref a0), l1, l2, l3], [], σ) = some (.inl none, wI σ a0 6 ((gI σ a0 6) + (1 : Int32))) := by
  refine (r_aloadn 0 (show decode (zb m_Book_keepPair) 36 = .ok (.aload_n 0, 1) from by decide +kernel) rfl).trans ?_
  refine (r_dupR (show decode (zb m_Book_keepPair) 37 = .ok (.dup, 1) from by decide +kernel)).trans ?_
  refine (r_getI (show decode (zb m_Book_keepPair) 38 = .ok (.getfield 31, 3) from by decide +kernel) rfl rfl h1).trans ?_
  refine (r_iconst (v := (1 : Int32)) (show decode (zb m_Book_keepPair) 41 = .ok (.iconst (1), 1) from by decide +kernel) (by decide)).trans ?_
  refine (r_iadd (show decode (zb m_Book_keepPair) 42 = .ok (.iadd, 1) from by decide +kernel)).trans ?_
  refine (r_putI (show decode (zb m_Book_keepPair) 43 = .ok (.putfield 31, 3) from by decide +kernel) rfl rfl rfl h1).trans ?_
  exact r_vret (show decode (zb m_Book_keepPair) 46 = .ok (.return_, 1) from by decide +kernel) rfl
theorem e_Book_firstPair {d : Nat} {σ : HP} {a0 : Nat} : callF (d + 1) m_Book_firstPair [.ref a0] σ = runF (callF d) d m_Book_firstPair (0, [some (.ref a0)], [], σ) := callF_in rfl rfl
theorem b_Book_firstPair_0 {C : CF} {d : Nat} {σ : HP} {a0 : Nat} (h1 : a0 % 64 = 0) (h2 : (gR σ a0 3).isSome = true) : runF C d m_Book_firstPair (0, [some (.ref a0)], [], σ) = bkN C d m_Book_firstPair 7 [some (.ref a0)] [.int ((10 : Int32))] (C m_PL_at [.ref (dr (gR σ a0 3)), .int ((0 : Int32))] σ) := by
  refine (r_bipush (v := (10 : Int32)) (show decode (zb m_Book_firstPair) 0 = .ok (.bipush (10), 2) from by decide +kernel) (by decide)).trans ?_
  refine (r_aloadn 0 (show decode (zb m_Book_firstPair) 2 = .ok (.aload_n 0, 1) from by decide +kernel) rfl).trans ?_
  refine (r_getR (show decode (zb m_Book_firstPair) 3 = .ok (.getfield 22, 3) from by decide +kernel) rfl rfl h1 h2).trans ?_
  refine (r_iconst (v := (0 : Int32)) (show decode (zb m_Book_firstPair) 6 = .ok (.iconst (0), 1) from by decide +kernel) (by decide)).trans ?_
  exact r_stat (args := [.ref (dr (gR σ a0 3)), .int ((0 : Int32))]) (rest := [.int ((10 : Int32))]) (show decode (zb m_Book_firstPair) 7 = .ok (.invokestatic 93, 3) from by decide +kernel) rfl (by decide) rfl rfl
theorem b_Book_firstPair_10 {C : CF} {d : Nat} {σ : HP} {s0 : Int32} {s1 : Int32} {a0 : Nat} (h1 : a0 % 64 = 0) (h2 : (gR σ a0 4).isSome = true) : runF C d m_Book_firstPair (10, [some (.ref a0)], [.int s0, .int s1], σ) = bkN C d m_Book_firstPair 16 [some (.ref a0)] [.int (s1 * s0)] (C m_PL_at [.ref (dr (gR σ a0 4)), .int ((0 : Int32))] σ) := by
  refine (r_imul (show decode (zb m_Book_firstPair) 10 = .ok (.imul, 1) from by decide +kernel)).trans ?_
  refine (r_aloadn 0 (show decode (zb m_Book_firstPair) 11 = .ok (.aload_n 0, 1) from by decide +kernel) rfl).trans ?_
  refine (r_getR (show decode (zb m_Book_firstPair) 12 = .ok (.getfield 25, 3) from by decide +kernel) rfl rfl h1 h2).trans ?_
  refine (r_iconst (v := (0 : Int32)) (show decode (zb m_Book_firstPair) 15 = .ok (.iconst (0), 1) from by decide +kernel) (by decide)).trans ?_
  exact r_stat (args := [.ref (dr (gR σ a0 4)), .int ((0 : Int32))]) (rest := [.int (s1 * s0)]) (show decode (zb m_Book_firstPair) 16 = .ok (.invokestatic 93, 3) from by decide +kernel) rfl (by decide) rfl rfl
theorem b_Book_firstPair_19 {C : CF} {d : Nat} {σ : HP} {s0 : Int32} {s1 : Int32} {l0 : Option Value}  : runF C d m_Book_firstPair (19, [l0], [.int s0, .int s1], σ) = some (.inl (some (.int (s1 + s0))), σ) := by
  refine (r_iadd (show decode (zb m_Book_firstPair) 19 = .ok (.iadd, 1) from by decide +kernel)).trans ?_
  exact r_iret (show decode (zb m_Book_firstPair) 20 = .ok (.ireturn, 1) from by decide +kernel) rfl rfl
theorem e_Book_leftAtWorst {d : Nat} {σ : HP} {a0 : Nat} {x1 : Int32} {x2 : Int32} : callF (d + 1) m_Book_leftAtWorst [.ref a0, .int x1, .int x2] σ = runF (callF d) d m_Book_leftAtWorst (0, [some (.ref a0), some (.int x1), some (.int x2), none, none, none, none], [], σ) := callF_in rfl rfl
theorem b_Book_leftAtWorst_0 {C : CF} {d : Nat} {σ : HP} {l0 : Option Value} {l1 : Option Value} {l2 : Option Value} {l3 : Option Value} {l4 : Option Value} {l5 : Option Value} {l6 : Option Value}  : runF C d m_Book_leftAtWorst (0, [l0, l1, l2, l3, l4, l5, l6], [], σ) = runF C d m_Book_leftAtWorst (5, [l0, l1, l2, some (.int ((0 : Int32))), some (.int ((0 : Int32))), l5, l6], [], σ) := by
  refine (r_iconst (v := (0 : Int32)) (show decode (zb m_Book_leftAtWorst) 0 = .ok (.iconst (0), 1) from by decide +kernel) (by decide)).trans ?_
  refine (r_istoren 3 (show decode (zb m_Book_leftAtWorst) 1 = .ok (.istore_n 3, 1) from by decide +kernel) rfl).trans ?_
  refine (r_iconst (v := (0 : Int32)) (show decode (zb m_Book_leftAtWorst) 2 = .ok (.iconst (0), 1) from by decide +kernel) (by decide)).trans ?_
  exact r_istore 4 (show decode (zb m_Book_leftAtWorst) 3 = .ok (.istore 4, 2) from by decide +kernel) rfl
theorem b_Book_leftAtWorst_5 {C : CF} {d : Nat} {σ : HP} {x4 : Int32} {a0 : Nat} {l1 : Option Value} {l2 : Option Value} {l3 : Option Value} {l5 : Option Value} {l6 : Option Value} (h1 : a0 % 64 = 0) : runF C d m_Book_leftAtWorst (5, [some (.ref a0), l1, l2, l3, some (.int x4), l5, l6], [], σ) = if (gI σ a0 6) ≤ x4 then runF C d m_Book_leftAtWorst (70, [some (.ref a0), l1, l2, l3, some (.int x4), l5, l6], [], σ) else runF C d m_Book_leftAtWorst (14, [some (.ref a0), l1, l2, l3, some (.int x4), l5, l6], [], σ) := by
  refine (r_iload 4 (show decode (zb m_Book_leftAtWorst) 5 = .ok (.iload 4, 2) from by decide +kernel) rfl).trans ?_
  refine (r_aloadn 0 (show decode (zb m_Book_leftAtWorst) 7 = .ok (.aload_n 0, 1) from by decide +kernel) rfl).trans ?_
  refine (r_getI (show decode (zb m_Book_leftAtWorst) 8 = .ok (.getfield 31, 3) from by decide +kernel) rfl rfl h1).trans ?_
  exact r_icmp_ge 70 (show decode (zb m_Book_leftAtWorst) 11 = .ok (.if_icmp .ge (59), 3) from by decide +kernel) rfl
theorem b_Book_leftAtWorst_14 {C : CF} {d : Nat} {σ : HP} {l0 : Option Value} {l1 : Option Value} {l2 : Option Value} {l3 : Option Value} {l4 : Option Value} {l5 : Option Value} {l6 : Option Value}  : runF C d m_Book_leftAtWorst (14, [l0, l1, l2, l3, l4, l5, l6], [], σ) = runF C d m_Book_leftAtWorst (20, [l0, l1, l2, l3, l4, some (.int ((0 : Int32))), some (.int ((0 : Int32)))], [], σ) := by
  refine (r_iconst (v := (0 : Int32)) (show decode (zb m_Book_leftAtWorst) 14 = .ok (.iconst (0), 1) from by decide +kernel) (by decide)).trans ?_
  refine (r_istore 5 (show decode (zb m_Book_leftAtWorst) 15 = .ok (.istore 5, 2) from by decide +kernel) rfl).trans ?_
  refine (r_iconst (v := (0 : Int32)) (show decode (zb m_Book_leftAtWorst) 17 = .ok (.iconst (0), 1) from by decide +kernel) (by decide)).trans ?_
  exact r_istore 6 (show decode (zb m_Book_leftAtWorst) 18 = .ok (.istore 6, 2) from by decide +kernel) rfl
theorem b_Book_leftAtWorst_20 {C : CF} {d : Nat} {σ : HP} {x6 : Int32} {a0 : Nat} {l1 : Option Value} {l2 : Option Value} {l3 : Option Value} {l4 : Option Value} {l5 : Option Value} (h1 : a0 % 64 = 0) : runF C d m_Book_leftAtWorst (20, [some (.ref a0), l1, l2, l3, l4, l5, some (.int x6)], [], σ) = if (gI σ a0 6) ≤ x6 then runF C d m_Book_leftAtWorst (57, [some (.ref a0), l1, l2, l3, l4, l5, some (.int x6)], [], σ) else runF C d m_Book_leftAtWorst (29, [some (.ref a0), l1, l2, l3, l4, l5, some (.int x6)], [], σ) := by
  refine (r_iload 6 (show decode (zb m_Book_leftAtWorst) 20 = .ok (.iload 6, 2) from by decide +kernel) rfl).trans ?_
  refine (r_aloadn 0 (show decode (zb m_Book_leftAtWorst) 22 = .ok (.aload_n 0, 1) from by decide +kernel) rfl).trans ?_
  refine (r_getI (show decode (zb m_Book_leftAtWorst) 23 = .ok (.getfield 31, 3) from by decide +kernel) rfl rfl h1).trans ?_
  exact r_icmp_ge 57 (show decode (zb m_Book_leftAtWorst) 26 = .ok (.if_icmp .ge (31), 3) from by decide +kernel) rfl
theorem b_Book_leftAtWorst_29 {C : CF} {d : Nat} {σ : HP} {a0 : Nat} {x6 : Int32} {x1 : Int32} {x2 : Int32} {l3 : Option Value} {l4 : Option Value} {l5 : Option Value} (h1 : a0 % 64 = 0) : runF C d m_Book_leftAtWorst (29, [some (.ref a0), some (.int x1), some (.int x2), l3, l4, l5, some (.int x6)], [], σ) = bk C d m_Book_leftAtWorst 34 [some (.ref a0), some (.int x1), some (.int x2), l3, l4, l5, some (.int x6)] [] (C m_Book_heavyByPair [.ref a0, .int x6, .int x1, .int x2] σ) := by
  refine (r_aloadn 0 (show decode (zb m_Book_leftAtWorst) 29 = .ok (.aload_n 0, 1) from by decide +kernel) rfl).trans ?_
  refine (r_iload 6 (show decode (zb m_Book_leftAtWorst) 30 = .ok (.iload 6, 2) from by decide +kernel) rfl).trans ?_
  refine (r_iloadn 1 (show decode (zb m_Book_leftAtWorst) 32 = .ok (.iload_n 1, 1) from by decide +kernel) rfl).trans ?_
  refine (r_iloadn 2 (show decode (zb m_Book_leftAtWorst) 33 = .ok (.iload_n 2, 1) from by decide +kernel) rfl).trans ?_
  exact r_virt (args := [.int x6, .int x1, .int x2]) (rest := []) (show decode (zb m_Book_leftAtWorst) 34 = .ok (.invokevirtual 105, 3) from by decide +kernel) rfl rfl rfl h1
theorem b_Book_leftAtWorst_37 {C : CF} {d : Nat} {σ : HP} {s0 : Int32} {a0 : Nat} {x4 : Int32} {x1 : Int32} {x2 : Int32} {l3 : Option Value} {l5 : Option Value} {l6 : Option Value} (h1 : a0 % 64 = 0) : runF C d m_Book_leftAtWorst (37, [some (.ref a0), some (.int x1), some (.int x2), l3, some (.int x4), l5, l6], [.int s0], σ) = bk C d m_Book_leftAtWorst 42 [some (.ref a0), some (.int x1), some (.int x2), l3, some (.int x4), l5, l6] [.int s0] (C m_Book_heavyByPair [.ref a0, .int x4, .int x1, .int x2] σ) := by
  refine (r_aloadn 0 (show decode (zb m_Book_leftAtWorst) 37 = .ok (.aload_n 0, 1) from by decide +kernel) rfl).trans ?_
  refine (r_iload 4 (show decode (zb m_Book_leftAtWorst) 38 = .ok (.iload 4, 2) from by decide +kernel) rfl).trans ?_
  refine (r_iloadn 1 (show decode (zb m_Book_leftAtWorst) 40 = .ok (.iload_n 1, 1) from by decide +kernel) rfl).trans ?_
  refine (r_iloadn 2 (show decode (zb m_Book_leftAtWorst) 41 = .ok (.iload_n 2, 1) from by decide +kernel) rfl).trans ?_
  exact r_virt (args := [.int x4, .int x1, .int x2]) (rest := [.int s0]) (show decode (zb m_Book_leftAtWorst) 42 = .ok (.invokevirtual 105, 3) from by decide +kernel) rfl rfl rfl h1
theorem b_Book_leftAtWorst_45 {C : CF} {d : Nat} {σ : HP} {s0 : Int32} {s1 : Int32} {l0 : Option Value} {l1 : Option Value} {l2 : Option Value} {l3 : Option Value} {l4 : Option Value} {l5 : Option Value} {l6 : Option Value}  : runF C d m_Book_leftAtWorst (45, [l0, l1, l2, l3, l4, l5, l6], [.int s0, .int s1], σ) = if ¬ s1 = s0 then runF C d m_Book_leftAtWorst (51, [l0, l1, l2, l3, l4, l5, l6], [], σ) else runF C d m_Book_leftAtWorst (48, [l0, l1, l2, l3, l4, l5, l6], [], σ) := by
  exact r_icmp_ne 51 (show decode (zb m_Book_leftAtWorst) 45 = .ok (.if_icmp .ne (6), 3) from by decide +kernel) rfl
theorem b_Book_leftAtWorst_48 {C : CF} {d : Nat} {σ : HP} {x5 : Int32} {l0 : Option Value} {l1 : Option Value} {l2 : Option Value} {l3 : Option Value} {l4 : Option Value} {l6 : Option Value}  : runF C d m_Book_leftAtWorst (48, [l0, l1, l2, l3, l4, some (.int x5), l6], [], σ) = runF C d m_Book_leftAtWorst (51, [l0, l1, l2, l3, l4, some (.int (x5 + (1 : Int32))), l6], [], σ) := by
  exact r_iinc 5 (v := (1 : Int32)) (show decode (zb m_Book_leftAtWorst) 48 = .ok (.iinc 5 (1), 3) from by decide +kernel) rfl rfl (by decide)
theorem b_Book_leftAtWorst_51 {C : CF} {d : Nat} {σ : HP} {x6 : Int32} {l0 : Option Value} {l1 : Option Value} {l2 : Option Value} {l3 : Option Value} {l4 : Option Value} {l5 : Option Value}  : runF C d m_Book_leftAtWorst (51, [l0, l1, l2, l3, l4, l5, some (.int x6)], [], σ) = runF C d m_Book_leftAtWorst (20, [l0, l1, l2, l3, l4, l5, some (.int (x6 + (1 : Int32)))], [], σ) := by
  refine (r_iinc 6 (v := (1 : Int32)) (show decode (zb m_Book_leftAtWorst) 51 = .ok (.iinc 6 (1), 3) from by decide +kernel) rfl rfl (by decide)).trans ?_
  exact r_goto 20 (show decode (zb m_Book_leftAtWorst) 54 = .ok (.goto (-34), 3) from by decide +kernel) rfl
theorem b_Book_leftAtWorst_57 {C : CF} {d : Nat} {σ : HP} {x3 : Int32} {x5 : Int32} {x4 : Int32} {l0 : Option Value} {l1 : Option Value} {l2 : Option Value} {l6 : Option Value}  : runF C d m_Book_leftAtWorst (57, [l0, l1, l2, some (.int x3), some (.int x4), some (.int x5), l6], [], σ) = runF C d m_Book_leftAtWorst (5, [l0, l1, l2, some (.int (p_max x3 x5)), some (.int (x4 + (1 : Int32))), some (.int x5), l6], [], σ) := by
  refine (r_iloadn 3 (show decode (zb m_Book_leftAtWorst) 57 = .ok (.iload_n 3, 1) from by decide +kernel) rfl).trans ?_
  refine (r_iload 5 (show decode (zb m_Book_leftAtWorst) 58 = .ok (.iload 5, 2) from by decide +kernel) rfl).trans ?_
  refine (r_max (show decode (zb m_Book_leftAtWorst) 60 = .ok (.invokestatic 109, 3) from by decide +kernel) rfl rfl).trans ?_
  refine (r_istoren 3 (show decode (zb m_Book_leftAtWorst) 63 = .ok (.istore_n 3, 1) from by decide +kernel) rfl).trans ?_
  refine (r_iinc 4 (v := (1 : Int32)) (show decode (zb m_Book_leftAtWorst) 64 = .ok (.iinc 4 (1), 3) from by decide +kernel) rfl rfl (by decide)).trans ?_
  exact r_goto 5 (show decode (zb m_Book_leftAtWorst) 67 = .ok (.goto (-62), 3) from by decide +kernel) rfl
theorem b_Book_leftAtWorst_70 {C : CF} {d : Nat} {σ : HP} {x3 : Int32} {l0 : Option Value} {l1 : Option Value} {l2 : Option Value} {l4 : Option Value} {l5 : Option Value} {l6 : Option Value}  : runF C d m_Book_leftAtWorst (70, [l0, l1, l2, some (.int x3), l4, l5, l6], [], σ) = some (.inl (some (.int x3)), σ) := by
  refine (r_iloadn 3 (show decode (zb m_Book_leftAtWorst) 70 = .ok (.iload_n 3, 1) from by decide +kernel) rfl).trans ?_
  exact r_iret (show decode (zb m_Book_leftAtWorst) 71 = .ok (.ireturn, 1) from by decide +kernel) rfl rfl
theorem e_Book_heavyByPair {d : Nat} {σ : HP} {a0 : Nat} {x1 : Int32} {x2 : Int32} {x3 : Int32} : callF (d + 1) m_Book_heavyByPair [.ref a0, .int x1, .int x2, .int x3] σ = runF (callF d) d m_Book_heavyByPair (0, [some (.ref a0), some (.int x1), some (.int x2), some (.int x3)], [], σ) := callF_in rfl rfl
theorem b_Book_heavyByPair_0 {C : CF} {d : Nat} {σ : HP} {a0 : Nat} {x1 : Int32} {l2 : Option Value} {l3 : Option Value} (h1 : a0 % 64 = 0) (h2 : (gR σ a0 3).isSome = true) : runF C d m_Book_heavyByPair (0, [some (.ref a0), some (.int x1), l2, l3], [], σ) = bkN C d m_Book_heavyByPair 5 [some (.ref a0), some (.int x1), l2, l3] [] (C m_PL_at [.ref (dr (gR σ a0 3)), .int x1] σ) := by
  refine (r_aloadn 0 (show decode (zb m_Book_heavyByPair) 0 = .ok (.aload_n 0, 1) from by decide +kernel) rfl).trans ?_
  refine (r_getR (show decode (zb m_Book_heavyByPair) 1 = .ok (.getfield 22, 3) from by decide +kernel) rfl rfl h1 h2).trans ?_
  refine (r_iloadn 1 (show decode (zb m_Book_heavyByPair) 4 = .ok (.iload_n 1, 1) from by decide +kernel) rfl).trans ?_
  exact r_stat (args := [.ref (dr (gR σ a0 3)), .int x1]) (rest := []) (show decode (zb m_Book_heavyByPair) 5 = .ok (.invokestatic 93, 3) from by decide +kernel) rfl (by decide) rfl rfl
theorem b_Book_heavyByPair_8 {C : CF} {d : Nat} {σ : HP} {s0 : Int32} {x2 : Int32} {l0 : Option Value} {l1 : Option Value} {l3 : Option Value}  : runF C d m_Book_heavyByPair (8, [l0, l1, some (.int x2), l3], [.int s0], σ) = if ¬ s0 = x2 then runF C d m_Book_heavyByPair (23, [l0, l1, some (.int x2), l3], [], σ) else runF C d m_Book_heavyByPair (12, [l0, l1, some (.int x2), l3], [], σ) := by
  refine (r_iloadn 2 (show decode (zb m_Book_heavyByPair) 8 = .ok (.iload_n 2, 1) from by decide +kernel) rfl).trans ?_
  exact r_icmp_ne 23 (show decode (zb m_Book_heavyByPair) 9 = .ok (.if_icmp .ne (14), 3) from by decide +kernel) rfl
theorem b_Book_heavyByPair_12 {C : CF} {d : Nat} {σ : HP} {a0 : Nat} {x1 : Int32} {l2 : Option Value} {l3 : Option Value} (h1 : a0 % 64 = 0) (h2 : (gR σ a0 5).isSome = true) : runF C d m_Book_heavyByPair (12, [some (.ref a0), some (.int x1), l2, l3], [], σ) = bkN C d m_Book_heavyByPair 17 [some (.ref a0), some (.int x1), l2, l3] [] (C m_PL_at [.ref (dr (gR σ a0 5)), .int x1] σ) := by
  refine (r_aloadn 0 (show decode (zb m_Book_heavyByPair) 12 = .ok (.aload_n 0, 1) from by decide +kernel) rfl).trans ?_
  refine (r_getR (show decode (zb m_Book_heavyByPair) 13 = .ok (.getfield 28, 3) from by decide +kernel) rfl rfl h1 h2).trans ?_
  refine (r_iloadn 1 (show decode (zb m_Book_heavyByPair) 16 = .ok (.iload_n 1, 1) from by decide +kernel) rfl).trans ?_
  exact r_stat (args := [.ref (dr (gR σ a0 5)), .int x1]) (rest := []) (show decode (zb m_Book_heavyByPair) 17 = .ok (.invokestatic 93, 3) from by decide +kernel) rfl (by decide) rfl rfl
theorem b_Book_heavyByPair_20 {C : CF} {d : Nat} {σ : HP} {s0 : Int32} {l0 : Option Value} {l1 : Option Value} {l2 : Option Value} {l3 : Option Value}  : runF C d m_Book_heavyByPair (20, [l0, l1, l2, l3], [.int s0], σ) = runF C d m_Book_heavyByPair (24, [l0, l1, l2, l3], [.int s0], σ) := by
  exact r_goto 24 (show decode (zb m_Book_heavyByPair) 20 = .ok (.goto (4), 3) from by decide +kernel) rfl
theorem b_Book_heavyByPair_23 {C : CF} {d : Nat} {σ : HP} {x3 : Int32} {l0 : Option Value} {l1 : Option Value} {l2 : Option Value}  : runF C d m_Book_heavyByPair (23, [l0, l1, l2, some (.int x3)], [], σ) = runF C d m_Book_heavyByPair (24, [l0, l1, l2, some (.int x3)], [.int x3], σ) := by
  exact r_iloadn 3 (show decode (zb m_Book_heavyByPair) 23 = .ok (.iload_n 3, 1) from by decide +kernel) rfl
theorem b_Book_heavyByPair_24 {C : CF} {d : Nat} {σ : HP} {s0 : Int32} {l0 : Option Value} {l1 : Option Value} {l2 : Option Value} {l3 : Option Value}  : runF C d m_Book_heavyByPair (24, [l0, l1, l2, l3], [.int s0], σ) = some (.inl (some (.int s0)), σ) := by
  exact r_iret (show decode (zb m_Book_heavyByPair) 24 = .ok (.ireturn, 1) from by decide +kernel) rfl rfl
theorem e_Days_init {d : Nat} {σ : HP} {a0 : Nat} : callF (d + 1) m_Days_init [.ref a0] σ = runF (callF d) d m_Days_init (0, [some (.ref a0)], [], σ) := callF_in rfl rfl
theorem b_Days_init_0 {C : CF} {d : Nat} {σ : HP} {a0 : Nat} (h1 : a0 % 64 = 1) : runF C d m_Days_init (0, [some (.ref a0)], [], σ) = some (.inl none, wR (hA (wR (hA (wR (hA (wR (hA (wI (wI (wI (wI σ a0 0 (0 : Int32)) a0 1 (0 : Int32)) a0 2 (0 : Int32)) a0 3 (0 : Int32)) 21 7) a0 4 (some (21 + 64 * hN σ))) 21 7) a0 5 (some (21 + 64 * (hN σ + 1)))) 21 7) a0 6 (some (21 + 64 * (hN σ + 2)))) 26 56) a0 7 (some (26 + 64 * (hN σ + 3)))) := by
  refine (r_aloadn 0 (show decode (zb m_Days_init) 0 = .ok (.aload_n 0, 1) from by decide +kernel) rfl).trans ?_
  refine (r_obj (show decode (zb m_Days_init) 1 = .ok (.invokespecial 3, 3) from by decide +kernel) rfl (by have := h1; omega) rfl).trans ?_
  refine (r_aloadn 0 (show decode (zb m_Days_init) 4 = .ok (.aload_n 0, 1) from by decide +kernel) rfl).trans ?_
  refine (r_iconst (v := (0 : Int32)) (show decode (zb m_Days_init) 5 = .ok (.iconst (0), 1) from by decide +kernel) (by decide)).trans ?_
  refine (r_putI (show decode (zb m_Days_init) 6 = .ok (.putfield 9, 3) from by decide +kernel) rfl rfl rfl h1).trans ?_
  refine (r_aloadn 0 (show decode (zb m_Days_init) 9 = .ok (.aload_n 0, 1) from by decide +kernel) rfl).trans ?_
  refine (r_iconst (v := (0 : Int32)) (show decode (zb m_Days_init) 10 = .ok (.iconst (0), 1) from by decide +kernel) (by decide)).trans ?_
  refine (r_putI (show decode (zb m_Days_init) 11 = .ok (.putfield 15, 3) from by decide +kernel) rfl rfl rfl h1).trans ?_
  refine (r_aloadn 0 (show decode (zb m_Days_init) 14 = .ok (.aload_n 0, 1) from by decide +kernel) rfl).trans ?_
  refine (r_iconst (v := (0 : Int32)) (show decode (zb m_Days_init) 15 = .ok (.iconst (0), 1) from by decide +kernel) (by decide)).trans ?_
  refine (r_putI (show decode (zb m_Days_init) 16 = .ok (.putfield 18, 3) from by decide +kernel) rfl rfl rfl h1).trans ?_
  refine (r_aloadn 0 (show decode (zb m_Days_init) 19 = .ok (.aload_n 0, 1) from by decide +kernel) rfl).trans ?_
  refine (r_iconst (v := (0 : Int32)) (show decode (zb m_Days_init) 20 = .ok (.iconst (0), 1) from by decide +kernel) (by decide)).trans ?_
  refine (r_putI (show decode (zb m_Days_init) 21 = .ok (.putfield 21, 3) from by decide +kernel) rfl rfl rfl h1).trans ?_
  refine (r_aloadn 0 (show decode (zb m_Days_init) 24 = .ok (.aload_n 0, 1) from by decide +kernel) rfl).trans ?_
  refine (r_bipush (v := (7 : Int32)) (show decode (zb m_Days_init) 25 = .ok (.bipush (7), 2) from by decide +kernel) (by decide)).trans ?_
  refine (r_arrI (k := 21) (show decode (zb m_Days_init) 27 = .ok (.newarray .int, 2) from by decide +kernel) (by decide) (by decide)).trans ?_
  refine (r_putR (show decode (zb m_Days_init) 29 = .ok (.putfield 24, 3) from by decide +kernel) rfl rfl rfl h1).trans ?_
  refine (r_aloadn 0 (show decode (zb m_Days_init) 32 = .ok (.aload_n 0, 1) from by decide +kernel) rfl).trans ?_
  refine (r_bipush (v := (7 : Int32)) (show decode (zb m_Days_init) 33 = .ok (.bipush (7), 2) from by decide +kernel) (by decide)).trans ?_
  refine (r_arrI (k := 21) (show decode (zb m_Days_init) 35 = .ok (.newarray .int, 2) from by decide +kernel) (by decide) (by decide)).trans ?_
  refine (r_putR (show decode (zb m_Days_init) 37 = .ok (.putfield 28, 3) from by decide +kernel) rfl rfl rfl h1).trans ?_
  refine (r_aloadn 0 (show decode (zb m_Days_init) 40 = .ok (.aload_n 0, 1) from by decide +kernel) rfl).trans ?_
  refine (r_bipush (v := (7 : Int32)) (show decode (zb m_Days_init) 41 = .ok (.bipush (7), 2) from by decide +kernel) (by decide)).trans ?_
  refine (r_arrI (k := 21) (show decode (zb m_Days_init) 43 = .ok (.newarray .int, 2) from by decide +kernel) (by decide) (by decide)).trans ?_
  refine (r_putR (show decode (zb m_Days_init) 45 = .ok (.putfield 31, 3) from by decide +kernel) rfl rfl rfl h1).trans ?_
  refine (r_aloadn 0 (show decode (zb m_Days_init) 48 = .ok (.aload_n 0, 1) from by decide +kernel) rfl).trans ?_
  refine (r_bipush (v := (56 : Int32)) (show decode (zb m_Days_init) 49 = .ok (.bipush (56), 2) from by decide +kernel) (by decide)).trans ?_
  refine (r_arrI (k := 26) (show decode (zb m_Days_init) 51 = .ok (.newarray .int, 2) from by decide +kernel) (by decide) (by decide)).trans ?_
  refine (r_putR (show decode (zb m_Days_init) 53 = .ok (.putfield 34, 3) from by decide +kernel) rfl rfl rfl h1).trans ?_
  exact r_vret (show decode (zb m_Days_init) 56 = .ok (.return_, 1) from by decide +kernel) rfl
theorem e_Days_takeFrom {d : Nat} {σ : HP} {a0 : Nat} {a1 : Nat} : callF (d + 1) m_Days_takeFrom [.ref a0, .ref a1] σ = runF (callF d) d m_Days_takeFrom (0, [some (.ref a0), some (.ref a1)], [], σ) := callF_in rfl rfl
theorem b_Days_takeFrom_0 {C : CF} {d : Nat} {σ : HP} {a0 : Nat} {a1 : Nat} (h1 : a1 % 64 = 1) (h2 : a0 % 64 = 1) (h3 : (gR (wI (wI (wI (wI σ a0 0 (gI σ a1 0)) a0 1 (gI (wI σ a0 0 (gI σ a1 0)) a1 1)) a0 2 (gI (wI (wI σ a0 0 (gI σ a1 0)) a0 1 (gI (wI σ a0 0 (gI σ a1 0)) a1 1)) a1 2)) a0 3 (gI (wI (wI (wI σ a0 0 (gI σ a1 0)) a0 1 (gI (wI σ a0 0 (gI σ a1 0)) a1 1)) a0 2 (gI (wI (wI σ a0 0 (gI σ a1 0)) a0 1 (gI (wI σ a0 0 (gI σ a1 0)) a1 1)) a1 2)) a1 3)) a1 4).isSome = true) (h4 : (gR (wI (wI (wI (wI σ a0 0 (gI σ a1 0)) a0 1 (gI (wI σ a0 0 (gI σ a1 0)) a1 1)) a0 2 (gI (wI (wI σ a0 0 (gI σ a1 0)) a0 1 (gI (wI σ a0 0 (gI σ a1 0)) a1 1)) a1 2)) a0 3 (gI (wI (wI (wI σ a0 0 (gI σ a1 0)) a0 1 (gI (wI σ a0 0 (gI σ a1 0)) a1 1)) a0 2 (gI (wI (wI σ a0 0 (gI σ a1 0)) a0 1 (gI (wI σ a0 0 (gI σ a1 0)) a1 1)) a1 2)) a1 3)) a0 4).isSome = true) : runF C d m_Days_takeFrom (0, [some (.ref a0), some (.ref a1)], [], σ) = bkN C d m_Days_takeFrom 40 [some (.ref a0), some (.ref a1)] [] (C m_PL_copyRow [.ref (dr (gR (wI (wI (wI (wI σ a0 0 (gI σ a1 0)) a0 1 (gI (wI σ a0 0 (gI σ a1 0)) a1 1)) a0 2 (gI (wI (wI σ a0 0 (gI σ a1 0)) a0 1 (gI (wI σ a0 0 (gI σ a1 0)) a1 1)) a1 2)) a0 3 (gI (wI (wI (wI σ a0 0 (gI σ a1 0)) a0 1 (gI (wI σ a0 0 (gI σ a1 0)) a1 1)) a0 2 (gI (wI (wI σ a0 0 (gI σ a1 0)) a0 1 (gI (wI σ a0 0 (gI σ a1 0)) a1 1)) a1 2)) a1 3)) a1 4)), .ref (dr (gR (wI (wI (wI (wI σ a0 0 (gI σ a1 0)) a0 1 (gI (wI σ a0 0 (gI σ a1 0)) a1 1)) a0 2 (gI (wI (wI σ a0 0 (gI σ a1 0)) a0 1 (gI (wI σ a0 0 (gI σ a1 0)) a1 1)) a1 2)) a0 3 (gI (wI (wI (wI σ a0 0 (gI σ a1 0)) a0 1 (gI (wI σ a0 0 (gI σ a1 0)) a1 1)) a0 2 (gI (wI (wI σ a0 0 (gI σ a1 0)) a0 1 (gI (wI σ a0 0 (gI σ a1 0)) a1 1)) a1 2)) a1 3)) a0 4))] (wI (wI (wI (wI σ a0 0 (gI σ a1 0)) a0 1 (gI (wI σ a0 0 (gI σ a1 0)) a1 1)) a0 2 (gI (wI (wI σ a0 0 (gI σ a1 0)) a0 1 (gI (wI σ a0 0 (gI σ a1 0)) a1 1)) a1 2)) a0 3 (gI (wI (wI (wI σ a0 0 (gI σ a1 0)) a0 1 (gI (wI σ a0 0 (gI σ a1 0)) a1 1)) a0 2 (gI (wI (wI σ a0 0 (gI σ a1 0)) a0 1 (gI (wI σ a0 0 (gI σ a1 0)) a1 1)) a1 2)) a1 3))) := by
  refine (r_aloadn 0 (show decode (zb m_Days_takeFrom) 0 = .ok (.aload_n 0, 1) from by decide +kernel) rfl).trans ?_
  refine (r_aloadn 1 (show decode (zb m_Days_takeFrom) 1 = .ok (.aload_n 1, 1) from by decide +kernel) rfl).trans ?_
  refine (r_getI (show decode (zb m_Days_takeFrom) 2 = .ok (.getfield 9, 3) from by decide +kernel) rfl rfl h1).trans ?_
  refine (r_putI (show decode (zb m_Days_takeFrom) 5 = .ok (.putfield 9, 3) from by decide +kernel) rfl rfl rfl h2).trans ?_
  refine (r_aloadn 0 (show decode (zb m_Days_takeFrom) 8 = .ok (.aload_n 0, 1) from by decide +kernel) rfl).trans ?_
  refine (r_aloadn 1 (show decode (zb m_Days_takeFrom) 9 = .ok (.aload_n 1, 1) from by decide +kernel) rfl).trans ?_
  refine (r_getI (show decode (zb m_Days_takeFrom) 10 = .ok (.getfield 15, 3) from by decide +kernel) rfl rfl h1).trans ?_
  refine (r_putI (show decode (zb m_Days_takeFrom) 13 = .ok (.putfield 15, 3) from by decide +kernel) rfl rfl rfl h2).trans ?_
  refine (r_aloadn 0 (show decode (zb m_Days_takeFrom) 16 = .ok (.aload_n 0, 1) from by decide +kernel) rfl).trans ?_
  refine (r_aloadn 1 (show decode (zb m_Days_takeFrom) 17 = .ok (.aload_n 1, 1) from by decide +kernel) rfl).trans ?_
  refine (r_getI (show decode (zb m_Days_takeFrom) 18 = .ok (.getfield 18, 3) from by decide +kernel) rfl rfl h1).trans ?_
  refine (r_putI (show decode (zb m_Days_takeFrom) 21 = .ok (.putfield 18, 3) from by decide +kernel) rfl rfl rfl h2).trans ?_
  refine (r_aloadn 0 (show decode (zb m_Days_takeFrom) 24 = .ok (.aload_n 0, 1) from by decide +kernel) rfl).trans ?_
  refine (r_aloadn 1 (show decode (zb m_Days_takeFrom) 25 = .ok (.aload_n 1, 1) from by decide +kernel) rfl).trans ?_
  refine (r_getI (show decode (zb m_Days_takeFrom) 26 = .ok (.getfield 21, 3) from by decide +kernel) rfl rfl h1).trans ?_
  refine (r_putI (show decode (zb m_Days_takeFrom) 29 = .ok (.putfield 21, 3) from by decide +kernel) rfl rfl rfl h2).trans ?_
  refine (r_aloadn 1 (show decode (zb m_Days_takeFrom) 32 = .ok (.aload_n 1, 1) from by decide +kernel) rfl).trans ?_
  refine (r_getR (show decode (zb m_Days_takeFrom) 33 = .ok (.getfield 24, 3) from by decide +kernel) rfl rfl h1 h3).trans ?_
  refine (r_aloadn 0 (show decode (zb m_Days_takeFrom) 36 = .ok (.aload_n 0, 1) from by decide +kernel) rfl).trans ?_
  refine (r_getR (show decode (zb m_Days_takeFrom) 37 = .ok (.getfield 24, 3) from by decide +kernel) rfl rfl h2 h4).trans ?_
  exact r_stat (args := [.ref (dr (gR (wI (wI (wI (wI σ a0 0 (gI σ a1 0)) a0 1 (gI (wI σ a0 0 (gI σ a1 0)) a1 1)) a0 2 (gI (wI (wI σ a0 0 (gI σ a1 0)) a0 1 (gI (wI σ a0 0 (gI σ a1 0)) a1 1)) a1 2)) a0 3 (gI (wI (wI (wI σ a0 0 (gI σ a1 0)) a0 1 (gI (wI σ a0 0 (gI σ a1 0)) a1 1)) a0 2 (gI (wI (wI σ a0 0 (gI σ a1 0)) a0 1 (gI (wI σ a0 0 (gI σ a1 0)) a1 1)) a1 2)) a1 3)) a1 4)), .ref (dr (gR (wI (wI (wI (wI σ a0 0 (gI σ a1 0)) a0 1 (gI (wI σ a0 0 (gI σ a1 0)) a1 1)) a0 2 (gI (wI (wI σ a0 0 (gI σ a1 0)) a0 1 (gI (wI σ a0 0 (gI σ a1 0)) a1 1)) a1 2)) a0 3 (gI (wI (wI (wI σ a0 0 (gI σ a1 0)) a0 1 (gI (wI σ a0 0 (gI σ a1 0)) a1 1)) a0 2 (gI (wI (wI σ a0 0 (gI σ a1 0)) a0 1 (gI (wI σ a0 0 (gI σ a1 0)) a1 1)) a1 2)) a1 3)) a0 4))]) (rest := []) (show decode (zb m_Days_takeFrom) 40 = .ok (.invokestatic 40, 3) from by decide +kernel) rfl (by decide) rfl rfl
theorem b_Days_takeFrom_43 {C : CF} {d : Nat} {σ : HP} {a1 : Nat} {a0 : Nat} (h1 : a1 % 64 = 1) (h2 : (gR σ a1 5).isSome = true) (h3 : a0 % 64 = 1) (h4 : (gR σ a0 5).isSome = true) : runF C d m_Days_takeFrom (43, [some (.ref a0), some (.ref a1)], [], σ) = bkN C d m_Days_takeFrom 51 [some (.ref a0), some (.ref a1)] [] (C m_PL_copyRow [.ref (dr (gR σ a1 5)), .ref (dr (gR σ a0 5))] σ) := by
  refine (r_aloadn 1 (show decode (zb m_Days_takeFrom) 43 = .ok (.aload_n 1, 1) from by decide +kernel) rfl).trans ?_
  refine (r_getR (show decode (zb m_Days_takeFrom) 44 = .ok (.getfield 28, 3) from by decide +kernel) rfl rfl h1 h2).trans ?_
  refine (r_aloadn 0 (show decode (zb m_Days_takeFrom) 47 = .ok (.aload_n 0, 1) from by decide +kernel) rfl).trans ?_
  refine (r_getR (show decode (zb m_Days_takeFrom) 48 = .ok (.getfield 28, 3) from by decide +kernel) rfl rfl h3 h4).trans ?_
  exact r_stat (args := [.ref (dr (gR σ a1 5)), .ref (dr (gR σ a0 5))]) (rest := []) (show decode (zb m_Days_takeFrom) 51 = .ok (.invokestatic 40, 3) from by decide +kernel) rfl (by decide) rfl rfl
theorem b_Days_takeFrom_54 {C : CF} {d : Nat} {σ : HP} {a1 : Nat} {a0 : Nat} (h1 : a1 % 64 = 1) (h2 : (gR σ a1 6).isSome = true) (h3 : a0 % 64 = 1) (h4 : (gR σ a0 6).isSome = true) : runF C d m_Days_takeFrom (54, [some (.ref a0), some (.ref a1)], [], σ) = bkN C d m_Days_takeFrom 62 [some (.ref a0), some (.ref a1)] [] (C m_PL_copyRow [.ref (dr (gR σ a1 6)), .ref (dr (gR σ a0 6))] σ) := by
  refine (r_aloadn 1 (show decode (zb m_Days_takeFrom) 54 = .ok (.aload_n 1, 1) from by decide +kernel) rfl).trans ?_
  refine (r_getR (show decode (zb m_Days_takeFrom) 55 = .ok (.getfield 31, 3) from by decide +kernel) rfl rfl h1 h2).trans ?_
  refine (r_aloadn 0 (show decode (zb m_Days_takeFrom) 58 = .ok (.aload_n 0, 1) from by decide +kernel) rfl).trans ?_
  refine (r_getR (show decode (zb m_Days_takeFrom) 59 = .ok (.getfield 31, 3) from by decide +kernel) rfl rfl h3 h4).trans ?_
  exact r_stat (args := [.ref (dr (gR σ a1 6)), .ref (dr (gR σ a0 6))]) (rest := []) (show decode (zb m_Days_takeFrom) 62 = .ok (.invokestatic 40, 3) from by decide +kernel) rfl (by decide) rfl rfl
theorem b_Days_takeFrom_65 {C : CF} {d : Nat} {σ : HP} {a1 : Nat} {a0 : Nat} (h1 : a1 % 64 = 1) (h2 : (gR σ a1 7).isSome = true) (h3 : a0 % 64 = 1) (h4 : (gR σ a0 7).isSome = true) : runF C d m_Days_takeFrom (65, [some (.ref a0), some (.ref a1)], [], σ) = bkN C d m_Days_takeFrom 73 [some (.ref a0), some (.ref a1)] [] (C m_PL_copyRow [.ref (dr (gR σ a1 7)), .ref (dr (gR σ a0 7))] σ) := by
  refine (r_aloadn 1 (show decode (zb m_Days_takeFrom) 65 = .ok (.aload_n 1, 1) from by decide +kernel) rfl).trans ?_
  refine (r_getR (show decode (zb m_Days_takeFrom) 66 = .ok (.getfield 34, 3) from by decide +kernel) rfl rfl h1 h2).trans ?_
  refine (r_aloadn 0 (show decode (zb m_Days_takeFrom) 69 = .ok (.aload_n 0, 1) from by decide +kernel) rfl).trans ?_
  refine (r_getR (show decode (zb m_Days_takeFrom) 70 = .ok (.getfield 34, 3) from by decide +kernel) rfl rfl h3 h4).trans ?_
  exact r_stat (args := [.ref (dr (gR σ a1 7)), .ref (dr (gR σ a0 7))]) (rest := []) (show decode (zb m_Days_takeFrom) 73 = .ok (.invokestatic 40, 3) from by decide +kernel) rfl (by decide) rfl rfl
theorem b_Days_takeFrom_76 {C : CF} {d : Nat} {σ : HP} {l0 : Option Value} {l1 : Option Value}  : runF C d m_Days_takeFrom (76, [l0, l1], [], σ) = some (.inl none, σ) := by
  exact r_vret (show decode (zb m_Days_takeFrom) 76 = .ok (.return_, 1) from by decide +kernel) rfl
theorem e_Days_beginIn {d : Nat} {σ : HP} {a0 : Nat} {a1 : Nat} : callF (d + 1) m_Days_beginIn [.ref a0, .ref a1] σ = runF (callF d) d m_Days_beginIn (0, [some (.ref a0), some (.ref a1)], [], σ) := callF_in rfl rfl
theorem b_Days_beginIn_0 {C : CF} {d : Nat} {σ : HP} {a0 : Nat} {a1 : Nat} (h1 : a0 % 64 = 1) (h2 : a1 % 64 = 2) (h3 : (gR (wI (wI (wI (wI σ a0 0 (0 : Int32)) a0 1 (0 : Int32)) a0 2 (0 : Int32)) a0 3 (0 : Int32)) a1 4).isSome = true) (h4 : (gR (wI (wI (wI (wI σ a0 0 (0 : Int32)) a0 1 (0 : Int32)) a0 2 (0 : Int32)) a0 3 (0 : Int32)) a0 4).isSome = true) : runF C d m_Days_beginIn (0, [some (.ref a0), some (.ref a1)], [], σ) = bkN C d m_Days_beginIn 28 [some (.ref a0), some (.ref a1)] [] (C m_PL_copyRow [.ref (dr (gR (wI (wI (wI (wI σ a0 0 (0 : Int32)) a0 1 (0 : Int32)) a0 2 (0 : Int32)) a0 3 (0 : Int32)) a1 4)), .ref (dr (gR (wI (wI (wI (wI σ a0 0 (0 : Int32)) a0 1 (0 : Int32)) a0 2 (0 : Int32)) a0 3 (0 : Int32)) a0 4))] (wI (wI (wI (wI σ a0 0 (0 : Int32)) a0 1 (0 : Int32)) a0 2 (0 : Int32)) a0 3 (0 : Int32))) := by
  refine (r_aloadn 0 (show decode (zb m_Days_beginIn) 0 = .ok (.aload_n 0, 1) from by decide +kernel) rfl).trans ?_
  refine (r_iconst (v := (0 : Int32)) (show decode (zb m_Days_beginIn) 1 = .ok (.iconst (0), 1) from by decide +kernel) (by decide)).trans ?_
  refine (r_putI (show decode (zb m_Days_beginIn) 2 = .ok (.putfield 9, 3) from by decide +kernel) rfl rfl rfl h1).trans ?_
  refine (r_aloadn 0 (show decode (zb m_Days_beginIn) 5 = .ok (.aload_n 0, 1) from by decide +kernel) rfl).trans ?_
  refine (r_iconst (v := (0 : Int32)) (show decode (zb m_Days_beginIn) 6 = .ok (.iconst (0), 1) from by decide +kernel) (by decide)).trans ?_
  refine (r_putI (show decode (zb m_Days_beginIn) 7 = .ok (.putfield 15, 3) from by decide +kernel) rfl rfl rfl h1).trans ?_
  refine (r_aloadn 0 (show decode (zb m_Days_beginIn) 10 = .ok (.aload_n 0, 1) from by decide +kernel) rfl).trans ?_
  refine (r_iconst (v := (0 : Int32)) (show decode (zb m_Days_beginIn) 11 = .ok (.iconst (0), 1) from by decide +kernel) (by decide)).trans ?_
  refine (r_putI (show decode (zb m_Days_beginIn) 12 = .ok (.putfield 18, 3) from by decide +kernel) rfl rfl rfl h1).trans ?_
  refine (r_aloadn 0 (show decode (zb m_Days_beginIn) 15 = .ok (.aload_n 0, 1) from by decide +kernel) rfl).trans ?_
  refine (r_iconst (v := (0 : Int32)) (show decode (zb m_Days_beginIn) 16 = .ok (.iconst (0), 1) from by decide +kernel) (by decide)).trans ?_
  refine (r_putI (show decode (zb m_Days_beginIn) 17 = .ok (.putfield 21, 3) from by decide +kernel) rfl rfl rfl h1).trans ?_
  refine (r_aloadn 1 (show decode (zb m_Days_beginIn) 20 = .ok (.aload_n 1, 1) from by decide +kernel) rfl).trans ?_
  refine (r_getR (show decode (zb m_Days_beginIn) 21 = .ok (.getfield 37, 3) from by decide +kernel) rfl rfl h2 h3).trans ?_
  refine (r_aloadn 0 (show decode (zb m_Days_beginIn) 24 = .ok (.aload_n 0, 1) from by decide +kernel) rfl).trans ?_
  refine (r_getR (show decode (zb m_Days_beginIn) 25 = .ok (.getfield 24, 3) from by decide +kernel) rfl rfl h1 h4).trans ?_
  exact r_stat (args := [.ref (dr (gR (wI (wI (wI (wI σ a0 0 (0 : Int32)) a0 1 (0 : Int32)) a0 2 (0 : Int32)) a0 3 (0 : Int32)) a1 4)), .ref (dr (gR (wI (wI (wI (wI σ a0 0 (0 : Int32)) a0 1 (0 : Int32)) a0 2 (0 : Int32)) a0 3 (0 : Int32)) a0 4))]) (rest := []) (show decode (zb m_Days_beginIn) 28 = .ok (.invokestatic 40, 3) from by decide +kernel) rfl (by decide) rfl rfl
theorem b_Days_beginIn_31 {C : CF} {d : Nat} {σ : HP} {a0 : Nat} {l1 : Option Value} (h1 : a0 % 64 = 1) (h2 : (gR σ a0 5).isSome = true) : runF C d m_Days_beginIn (31, [some (.ref a0), l1], [], σ) = bkN C d m_Days_beginIn 36 [some (.ref a0), l1] [] (C m_Arrays_fill [.ref (dr (gR σ a0 5)), .int ((0 : Int32))] σ) := by
  refine (r_aloadn 0 (show decode (zb m_Days_beginIn) 31 = .ok (.aload_n 0, 1) from by decide +kernel) rfl).trans ?_
  refine (r_getR (show decode (zb m_Days_beginIn) 32 = .ok (.getfield 28, 3) from by decide +kernel) rfl rfl h1 h2).trans ?_
  refine (r_iconst (v := (0 : Int32)) (show decode (zb m_Days_beginIn) 35 = .ok (.iconst (0), 1) from by decide +kernel) (by decide)).trans ?_
  exact r_stat (args := [.ref (dr (gR σ a0 5)), .int ((0 : Int32))]) (rest := []) (show decode (zb m_Days_beginIn) 36 = .ok (.invokestatic 44, 3) from by decide +kernel) rfl (by decide) rfl rfl
theorem b_Days_beginIn_39 {C : CF} {d : Nat} {σ : HP} {a0 : Nat} {l1 : Option Value} (h1 : a0 % 64 = 1) (h2 : (gR σ a0 6).isSome = true) : runF C d m_Days_beginIn (39, [some (.ref a0), l1], [], σ) = bkN C d m_Days_beginIn 44 [some (.ref a0), l1] [] (C m_Arrays_fill [.ref (dr (gR σ a0 6)), .int ((0 : Int32))] σ) := by
  refine (r_aloadn 0 (show decode (zb m_Days_beginIn) 39 = .ok (.aload_n 0, 1) from by decide +kernel) rfl).trans ?_
  refine (r_getR (show decode (zb m_Days_beginIn) 40 = .ok (.getfield 31, 3) from by decide +kernel) rfl rfl h1 h2).trans ?_
  refine (r_iconst (v := (0 : Int32)) (show decode (zb m_Days_beginIn) 43 = .ok (.iconst (0), 1) from by decide +kernel) (by decide)).trans ?_
  exact r_stat (args := [.ref (dr (gR σ a0 6)), .int ((0 : Int32))]) (rest := []) (show decode (zb m_Days_beginIn) 44 = .ok (.invokestatic 44, 3) from by decide +kernel) rfl (by decide) rfl rfl
theorem b_Days_beginIn_47 {C : CF} {d : Nat} {σ : HP} {a0 : Nat} {l1 : Option Value} (h1 : a0 % 64 = 1) (h2 : (gR σ a0 7).isSome = true) : runF C d m_Days_beginIn (47, [some (.ref a0), l1], [], σ) = bkN C d m_Days_beginIn 52 [some (.ref a0), l1] [] (C m_Arrays_fill [.ref (dr (gR σ a0 7)), .int ((0 : Int32))] σ) := by
  refine (r_aloadn 0 (show decode (zb m_Days_beginIn) 47 = .ok (.aload_n 0, 1) from by decide +kernel) rfl).trans ?_
  refine (r_getR (show decode (zb m_Days_beginIn) 48 = .ok (.getfield 34, 3) from by decide +kernel) rfl rfl h1 h2).trans ?_
  refine (r_iconst (v := (0 : Int32)) (show decode (zb m_Days_beginIn) 51 = .ok (.iconst (0), 1) from by decide +kernel) (by decide)).trans ?_
  exact r_stat (args := [.ref (dr (gR σ a0 7)), .int ((0 : Int32))]) (rest := []) (show decode (zb m_Days_beginIn) 52 = .ok (.invokestatic 44, 3) from by decide +kernel) rfl (by decide) rfl rfl
theorem b_Days_beginIn_55 {C : CF} {d : Nat} {σ : HP} {l0 : Option Value} {l1 : Option Value}  : runF C d m_Days_beginIn (55, [l0, l1], [], σ) = some (.inl none, σ) := by
  exact r_vret (show decode (zb m_Days_beginIn) 55 = .ok (.return_, 1) from by decide +kernel) rfl
theorem e_Days_timesHeard {d : Nat} {σ : HP} {a0 : Nat} {x1 : Int32} {x2 : Int32} : callF (d + 1) m_Days_timesHeard [.ref a0, .int x1, .int x2] σ = runF (callF d) d m_Days_timesHeard (0, [some (.ref a0), some (.int x1), some (.int x2)], [], σ) := callF_in rfl rfl
theorem b_Days_timesHeard_0 {C : CF} {d : Nat} {σ : HP} {a0 : Nat} {x1 : Int32} {x2 : Int32} (h1 : a0 % 64 = 1) (h2 : (gR σ a0 7).isSome = true) : runF C d m_Days_timesHeard (0, [some (.ref a0), some (.int x1), some (.int x2)], [], σ) = bkN C d m_Days_timesHeard 10 [some (.ref a0), some (.int x1), some (.int x2)] [] (C m_PL_at [.ref (dr (gR σ a0 7)), .int ((x1 * (8 : Int32)) + x2)] σ) := by
  refine (r_aloadn 0 (show decode (zb m_Days_timesHeard) 0 = .ok (.aload_n 0, 1) from by decide +kernel) rfl).trans ?_
  refine (r_getR (show decode (zb m_Days_timesHeard) 1 = .ok (.getfield 34, 3) from by decide +kernel) rfl rfl h1 h2).trans ?_
  refine (r_iloadn 1 (show decode (zb m_Days_timesHeard) 4 = .ok (.iload_n 1, 1) from by decide +kernel) rfl).trans ?_
  refine (r_bipush (v := (8 : Int32)) (show decode (zb m_Days_timesHeard) 5 = .ok (.bipush (8), 2) from by decide +kernel) (by decide)).trans ?_
  refine (r_imul (show decode (zb m_Days_timesHeard) 7 = .ok (.imul, 1) from by decide +kernel)).trans ?_
  refine (r_iloadn 2 (show decode (zb m_Days_timesHeard) 8 = .ok (.iload_n 2, 1) from by decide +kernel) rfl).trans ?_
  refine (r_iadd (show decode (zb m_Days_timesHeard) 9 = .ok (.iadd, 1) from by decide +kernel)).trans ?_
  exact r_stat (args := [.ref (dr (gR σ a0 7)), .int ((x1 * (8 : Int32)) + x2)]) (rest := []) (show decode (zb m_Days_timesHeard) 10 = .ok (.invokestatic 50, 3) from by decide +kernel) rfl (by decide) rfl rfl
theorem b_Days_timesHeard_13 {C : CF} {d : Nat} {σ : HP} {s0 : Int32} {l0 : Option Value} {l1 : Option Value} {l2 : Option Value}  : runF C d m_Days_timesHeard (13, [l0, l1, l2], [.int s0], σ) = some (.inl (some (.int s0)), σ) := by
  exact r_iret (show decode (zb m_Days_timesHeard) 13 = .ok (.ireturn, 1) from by decide +kernel) rfl rfl
theorem e_Days_hearOnceMore {d : Nat} {σ : HP} {a0 : Nat} {x1 : Int32} {x2 : Int32} : callF (d + 1) m_Days_hearOnceMore [.ref a0, .int x1, .int x2] σ = runF (callF d) d m_Days_hearOnceMore (0, [some (.ref a0), some (.int x1), some (.int x2)], [], σ) := callF_in rfl rfl
theorem b_Days_hearOnceMore_0 {C : CF} {d : Nat} {σ : HP} {a0 : Nat} {x1 : Int32} {x2 : Int32} (h1 : a0 % 64 = 1) (h2 : (gR σ a0 7).isSome = true) : runF C d m_Days_hearOnceMore (0, [some (.ref a0), some (.int x1), some (.int x2)], [], σ) = bk C d m_Days_hearOnceMore 13 [some (.ref a0), some (.int x1), some (.int x2)] [.int ((x1 * (8 : Int32)) + x2), .ref (dr (gR σ a0 7))] (C m_Days_timesHeard [.ref a0, .int x1, .int x2] σ) := by
  refine (r_aloadn 0 (show decode (zb m_Days_hearOnceMore) 0 = .ok (.aload_n 0, 1) from by decide +kernel) rfl).trans ?_
  refine (r_getR (show decode (zb m_Days_hearOnceMore) 1 = .ok (.getfield 34, 3) from by decide +kernel) rfl rfl h1 h2).trans ?_
  refine (r_iloadn 1 (show decode (zb m_Days_hearOnceMore) 4 = .ok (.iload_n 1, 1) from by decide +kernel) rfl).trans ?_
  refine (r_bipush (v := (8 : Int32)) (show decode (zb m_Days_hearOnceMore) 5 = .ok (.bipush (8), 2) from by decide +kernel) (by decide)).trans ?_
  refine (r_imul (show decode (zb m_Days_hearOnceMore) 7 = .ok (.imul, 1) from by decide +kernel)).trans ?_
  refine (r_iloadn 2 (show decode (zb m_Days_hearOnceMore) 8 = .ok (.iload_n 2, 1) from by decide +kernel) rfl).trans ?_
  refine (r_iadd (show decode (zb m_Days_hearOnceMore) 9 = .ok (.iadd, 1) from by decide +kernel)).trans ?_
  refine (r_aloadn 0 (show decode (zb m_Days_hearOnceMore) 10 = .ok (.aload_n 0, 1) from by decide +kernel) rfl).trans ?_
  refine (r_iloadn 1 (show decode (zb m_Days_hearOnceMore) 11 = .ok (.iload_n 1, 1) from by decide +kernel) rfl).trans ?_
  refine (r_iloadn 2 (show decode (zb m_Days_hearOnceMore) 12 = .ok (.iload_n 2, 1) from by decide +kernel) rfl).trans ?_
  exact r_virt (args := [.int x1, .int x2]) (rest := [.int ((x1 * (8 : Int32)) + x2), .ref (dr (gR σ a0 7))]) (show decode (zb m_Days_hearOnceMore) 13 = .ok (.invokevirtual 54, 3) from by decide +kernel) rfl rfl rfl h1
theorem b_Days_hearOnceMore_16 {C : CF} {d : Nat} {σ : HP} {s0 : Int32} {s1 : Int32} {r2 : Nat} {l0 : Option Value} {l1 : Option Value} {l2 : Option Value}  : runF C d m_Days_hearOnceMore (16, [l0, l1, l2], [.int s0, .int s1, .ref r2], σ) = bkN C d m_Days_hearOnceMore 18 [l0, l1, l2] [] (C m_PL_put [.ref r2, .int s1, .int (s0 + (1 : Int32))] σ) := by
  refine (r_iconst (v := (1 : Int32)) (show decode (zb m_Days_hearOnceMore) 16 = .ok (.iconst (1), 1) from by decide +kernel) (by decide)).trans ?_
  refine (r_iadd (show decode (zb m_Days_hearOnceMore) 17 = .ok (.iadd, 1) from by decide +kernel)).trans ?_
  exact r_stat (args := [.ref r2, .int s1, .int (s0 + (1 : Int32))]) (rest := []) (show decode (zb m_Days_hearOnceMore) 18 = .ok (.invokestatic 58, 3) from by decide +kernel) rfl (by decide) rfl rfl
theorem b_Days_hearOnceMore_21 {C : CF} {d : Nat} {σ : HP} {l0 : Option Value} {l1 : Option Value} {l2 : Option Value}  : runF C d m_Days_hearOnceMore (21, [l0, l1, l2], [], σ) = some (.inl none, σ) := by
  exact r_vret (show decode (zb m_Days_hearOnceMore) 21 = .ok (.return_, 1) from by decide +kernel) rfl
theorem e_House_init {d : Nat} {σ : HP} {a0 : Nat} : callF (d + 1) m_House_init [.ref a0] σ = runF (callF d) d m_House_init (0, [some (.ref a0)], [], σ) := callF_in rfl rfl
theorem b_House_init_0 {C : CF} {d : Nat} {σ : HP} {a0 : Nat} (h1 : a0 % 64 = 2) : runF C d m_House_init (0, [some (.ref a0)], [], σ) = some (.inl none, wR (hA (wR (hA (wR (hA (wR (hA (wR (hA (wI (wI (wI (wI σ a0 0 (6 : Int32)) a0 1 (0 : Int32)) a0 2 (0 : Int32)) a0 3 (100 : Int32)) 21 7) a0 4 (some (21 + 64 * hN σ))) 21 7) a0 5 (some (21 + 64 * (hN σ + 1)))) 21 7) a0 6 (some (21 + 64 * (hN σ + 2)))) 22 8) a0 7 (some (22 + 64 * (hN σ + 3)))) 22 8) a0 8 (some (22 + 64 * (hN σ + 4)))) := by
  refine (r_aloadn 0 (show decode (zb m_House_init) 0 = .ok (.aload_n 0, 1) from by decide +kernel) rfl).trans ?_
  refine (r_obj (show decode (zb m_House_init) 1 = .ok (.invokespecial 3, 3) from by decide +kernel) rfl (by have := h1; omega) rfl).trans ?_
  refine (r_aloadn 0 (show decode (zb m_House_init) 4 = .ok (.aload_n 0, 1) from by decide +kernel) rfl).trans ?_
  refine (r_bipush (v := (6 : Int32)) (show decode (zb m_House_init) 5 = .ok (.bipush (6), 2) from by decide +kernel) (by decide)).trans ?_
  refine (r_putI (show decode (zb m_House_init) 7 = .ok (.putfield 9, 3) from by decide +kernel) rfl rfl rfl h1).trans ?_
  refine (r_aloadn 0 (show decode (zb m_House_init) 10 = .ok (.aload_n 0, 1) from by decide +kernel) rfl).trans ?_
  refine (r_iconst (v := (0 : Int32)) (show decode (zb m_House_init) 11 = .ok (.iconst (0), 1) from by decide +kernel) (by decide)).trans ?_
  refine (r_putI (show decode (zb m_House_init) 12 = .ok (.putfield 15, 3) from by decide +kernel) rfl rfl rfl h1).trans ?_
  refine (r_aloadn 0 (show decode (zb m_House_init) 15 = .ok (.aload_n 0, 1) from by decide +kernel) rfl).trans ?_
  refine (r_iconst (v := (0 : Int32)) (show decode (zb m_House_init) 16 = .ok (.iconst (0), 1) from by decide +kernel) (by decide)).trans ?_
  refine (r_putI (show decode (zb m_House_init) 17 = .ok (.putfield 18, 3) from by decide +kernel) rfl rfl rfl h1).trans ?_
  refine (r_aloadn 0 (show decode (zb m_House_init) 20 = .ok (.aload_n 0, 1) from by decide +kernel) rfl).trans ?_
  refine (r_bipush (v := (100 : Int32)) (show decode (zb m_House_init) 21 = .ok (.bipush (100), 2) from by decide +kernel) (by decide)).trans ?_
  refine (r_putI (show decode (zb m_House_init) 23 = .ok (.putfield 21, 3) from by decide +kernel) rfl rfl rfl h1).trans ?_
  refine (r_aloadn 0 (show decode (zb m_House_init) 26 = .ok (.aload_n 0, 1) from by decide +kernel) rfl).trans ?_
  refine (r_bipush (v := (7 : Int32)) (show decode (zb m_House_init) 27 = .ok (.bipush (7), 2) from by decide +kernel) (by decide)).trans ?_
  refine (r_arrI (k := 21) (show decode (zb m_House_init) 29 = .ok (.newarray .int, 2) from by decide +kernel) (by decide) (by decide)).trans ?_
  refine (r_putR (show decode (zb m_House_init) 31 = .ok (.putfield 24, 3) from by decide +kernel) rfl rfl rfl h1).trans ?_
  refine (r_aloadn 0 (show decode (zb m_House_init) 34 = .ok (.aload_n 0, 1) from by decide +kernel) rfl).trans ?_
  refine (r_bipush (v := (7 : Int32)) (show decode (zb m_House_init) 35 = .ok (.bipush (7), 2) from by decide +kernel) (by decide)).trans ?_
  refine (r_arrI (k := 21) (show decode (zb m_House_init) 37 = .ok (.newarray .int, 2) from by decide +kernel) (by decide) (by decide)).trans ?_
  refine (r_putR (show decode (zb m_House_init) 39 = .ok (.putfield 28, 3) from by decide +kernel) rfl rfl rfl h1).trans ?_
  refine (r_aloadn 0 (show decode (zb m_House_init) 42 = .ok (.aload_n 0, 1) from by decide +kernel) rfl).trans ?_
  refine (r_bipush (v := (7 : Int32)) (show decode (zb m_House_init) 43 = .ok (.bipush (7), 2) from by decide +kernel) (by decide)).trans ?_
  refine (r_arrI (k := 21) (show decode (zb m_House_init) 45 = .ok (.newarray .int, 2) from by decide +kernel) (by decide) (by decide)).trans ?_
  refine (r_putR (show decode (zb m_House_init) 47 = .ok (.putfield 31, 3) from by decide +kernel) rfl rfl rfl h1).trans ?_
  refine (r_aloadn 0 (show decode (zb m_House_init) 50 = .ok (.aload_n 0, 1) from by decide +kernel) rfl).trans ?_
  refine (r_bipush (v := (8 : Int32)) (show decode (zb m_House_init) 51 = .ok (.bipush (8), 2) from by decide +kernel) (by decide)).trans ?_
  refine (r_arrI (k := 22) (show decode (zb m_House_init) 53 = .ok (.newarray .int, 2) from by decide +kernel) (by decide) (by decide)).trans ?_
  refine (r_putR (show decode (zb m_House_init) 55 = .ok (.putfield 34, 3) from by decide +kernel) rfl rfl rfl h1).trans ?_
  refine (r_aloadn 0 (show decode (zb m_House_init) 58 = .ok (.aload_n 0, 1) from by decide +kernel) rfl).trans ?_
  refine (r_bipush (v := (8 : Int32)) (show decode (zb m_House_init) 59 = .ok (.bipush (8), 2) from by decide +kernel) (by decide)).trans ?_
  refine (r_arrI (k := 22) (show decode (zb m_House_init) 61 = .ok (.newarray .int, 2) from by decide +kernel) (by decide) (by decide)).trans ?_
  refine (r_putR (show decode (zb m_House_init) 63 = .ok (.putfield 37, 3) from by decide +kernel) rfl rfl rfl h1).trans ?_
  exact r_vret (show decode (zb m_House_init) 66 = .ok (.return_, 1) from by decide +kernel) rfl
theorem e_House_readClauses {d : Nat} {σ : HP} {a0 : Nat} {a1 : Nat} : callF (d + 1) m_House_readClauses [.ref a0, .ref a1] σ = runF (callF d) d m_House_readClauses (0, [some (.ref a0), some (.ref a1), none, none], [], σ) := callF_in rfl rfl
theorem b_House_readClauses_0 {C : CF} {d : Nat} {σ : HP} {l0 : Option Value} {l1 : Option Value} {l2 : Option Value} {l3 : Option Value}  : runF C d m_House_readClauses (0, [l0, l1, l2, l3], [], σ) = runF C d m_House_readClauses (2, [l0, l1, some (.int ((0 : Int32))), l3], [], σ) := by
  refine (r_iconst (v := (0 : Int32)) (show decode (zb m_House_readClauses) 0 = .ok (.iconst (0), 1) from by decide +kernel) (by decide)).trans ?_
  exact r_istoren 2 (show decode (zb m_House_readClauses) 1 = .ok (.istore_n 2, 1) from by decide +kernel) rfl
theorem b_House_readClauses_2 {C : CF} {d : Nat} {σ : HP} {x2 : Int32} {l0 : Option Value} {l1 : Option Value} {l3 : Option Value}  : runF C d m_House_readClauses (2, [l0, l1, some (.int x2), l3], [], σ) = if (60 : Int32) < x2 then runF C d m_House_readClauses (64, [l0, l1, some (.int x2), l3], [], σ) else runF C d m_House_readClauses (8, [l0, l1, some (.int x2), l3], [], σ) := by
  refine (r_iloadn 2 (show decode (zb m_House_readClauses) 2 = .ok (.iload_n 2, 1) from by decide +kernel) rfl).trans ?_
  refine (r_bipush (v := (60 : Int32)) (show decode (zb m_House_readClauses) 3 = .ok (.bipush (60), 2) from by decide +kernel) (by decide)).trans ?_
  exact r_icmp_gt 64 (show decode (zb m_House_readClauses) 5 = .ok (.if_icmp .gt (59), 3) from by decide +kernel) rfl
theorem b_House_readClauses_8 {C : CF} {d : Nat} {σ : HP} {a1 : Nat} {l0 : Option Value} {l2 : Option Value} {l3 : Option Value} (h1 : a1 % 64 = 7) : runF C d m_House_readClauses (8, [l0, some (.ref a1), l2, l3], [], σ) = bk C d m_House_readClauses 9 [l0, some (.ref a1), l2, l3] [] (C m_Reader_failed [.ref a1] σ) := by
  refine (r_aloadn 1 (show decode (zb m_House_readClauses) 8 = .ok (.aload_n 1, 1) from by decide +kernel) rfl).trans ?_
  exact r_virt (args := []) (rest := []) (show decode (zb m_House_readClauses) 9 = .ok (.invokevirtual 40, 3) from by decide +kernel) rfl rfl rfl h1
theorem b_House_readClauses_12 {C : CF} {d : Nat} {σ : HP} {s0 : Int32} {l0 : Option Value} {l1 : Option Value} {l2 : Option Value} {l3 : Option Value}  : runF C d m_House_readClauses (12, [l0, l1, l2, l3], [.int s0], σ) = if ¬ s0 = 0 then runF C d m_House_readClauses (23, [l0, l1, l2, l3], [], σ) else runF C d m_House_readClauses (15, [l0, l1, l2, l3], [], σ) := by
  exact r_if_ne 23 (show decode (zb m_House_readClauses) 12 = .ok (.ifCond .ne (11), 3) from by decide +kernel) rfl
theorem b_House_readClauses_15 {C : CF} {d : Nat} {σ : HP} {a1 : Nat} {l0 : Option Value} {l2 : Option Value} {l3 : Option Value} (h1 : a1 % 64 = 7) : runF C d m_House_readClauses (15, [l0, some (.ref a1), l2, l3], [], σ) = bk C d m_House_readClauses 16 [l0, some (.ref a1), l2, l3] [] (C m_Reader_peek [.ref a1] σ) := by
  refine (r_aloadn 1 (show decode (zb m_House_readClauses) 15 = .ok (.aload_n 1, 1) from by decide +kernel) rfl).trans ?_
  exact r_virt (args := []) (rest := []) (show decode (zb m_House_readClauses) 16 = .ok (.invokevirtual 46, 3) from by decide +kernel) rfl rfl rfl h1
theorem b_House_readClauses_19 {C : CF} {d : Nat} {σ : HP} {s0 : Int32} {l0 : Option Value} {l1 : Option Value} {l2 : Option Value} {l3 : Option Value}  : runF C d m_House_readClauses (19, [l0, l1, l2, l3], [.int s0], σ) = if ¬ s0 = (-1 : Int32) then runF C d m_House_readClauses (24, [l0, l1, l2, l3], [], σ) else runF C d m_House_readClauses (23, [l0, l1, l2, l3], [], σ) := by
  refine (r_iconst (v := (-1 : Int32)) (show decode (zb m_House_readClauses) 19 = .ok (.iconst (-1), 1) from by decide +kernel) (by decide)).trans ?_
  exact r_icmp_ne 24 (show decode (zb m_House_readClauses) 20 = .ok (.if_icmp .ne (4), 3) from by decide +kernel) rfl
theorem b_House_readClauses_23 {C : CF} {d : Nat} {σ : HP} {l0 : Option Value} {l1 : Option Value} {l2 : Option Value} {l3 : Option Value}  : runF C d m_House_readClauses (23, [l0, l1, l2, l3], [], σ) = some (.inl none, σ) := by
  exact r_vret (show decode (zb m_House_readClauses) 23 = .ok (.return_, 1) from by decide +kernel) rfl
theorem b_House_readClauses_24 {C : CF} {d : Nat} {σ : HP} {a1 : Nat} {l0 : Option Value} {l2 : Option Value} {l3 : Option Value} (h1 : a1 % 64 = 7) : runF C d m_House_readClauses (24, [l0, some (.ref a1), l2, l3], [], σ) = bk C d m_House_readClauses 27 [l0, some (.ref a1), l2, l3] [] (C m_Reader_readWord [.ref a1, .ref 80] σ) := by
  refine (r_aloadn 1 (show decode (zb m_House_readClauses) 24 = .ok (.aload_n 1, 1) from by decide +kernel) rfl).trans ?_
  refine (r_ldcS (i := 1) (show decode (zb m_House_readClauses) 25 = .ok (.ldc 50, 2) from by decide +kernel) rfl rfl).trans ?_
  exact r_virt (args := [.ref 80]) (rest := []) (show decode (zb m_House_readClauses) 27 = .ok (.invokevirtual 52, 3) from by decide +kernel) rfl rfl rfl h1
theorem b_House_readClauses_30 {C : CF} {d : Nat} {σ : HP} {s0 : Int32} {x2 : Int32} {l0 : Option Value} {l1 : Option Value} {l3 : Option Value}  : runF C d m_House_readClauses (30, [l0, l1, some (.int x2), l3], [.int s0], σ) = if ¬ x2 = (60 : Int32) then runF C d m_House_readClauses (46, [l0, l1, some (.int x2), some (.int s0)], [], σ) else runF C d m_House_readClauses (37, [l0, l1, some (.int x2), some (.int s0)], [], σ) := by
  refine (r_istoren 3 (show decode (zb m_House_readClauses) 30 = .ok (.istore_n 3, 1) from by decide +kernel) rfl).trans ?_
  refine (r_iloadn 2 (show decode (zb m_House_readClauses) 31 = .ok (.iload_n 2, 1) from by decide +kernel) rfl).trans ?_
  refine (r_bipush (v := (60 : Int32)) (show decode (zb m_House_readClauses) 32 = .ok (.bipush (60), 2) from by decide +kernel) (by decide)).trans ?_
  exact r_icmp_ne 46 (show decode (zb m_House_readClauses) 34 = .ok (.if_icmp .ne (12), 3) from by decide +kernel) rfl
theorem b_House_readClauses_37 {C : CF} {d : Nat} {σ : HP} {a1 : Nat} {l0 : Option Value} {l2 : Option Value} {l3 : Option Value} (h1 : a1 % 64 = 7) : runF C d m_House_readClauses (37, [l0, some (.ref a1), l2, l3], [], σ) = bk C d m_House_readClauses 43 [l0, some (.ref a1), l2, l3] [] (C m_Reader_blame [.ref a1, .int ((3 : Int32)), .int (gI σ a1 5)] σ) := by
  refine (r_aloadn 1 (show decode (zb m_House_readClauses) 37 = .ok (.aload_n 1, 1) from by decide +kernel) rfl).trans ?_
  refine (r_iconst (v := (3 : Int32)) (show decode (zb m_House_readClauses) 38 = .ok (.iconst (3), 1) from by decide +kernel) (by decide)).trans ?_
  refine (r_aloadn 1 (show decode (zb m_House_readClauses) 39 = .ok (.aload_n 1, 1) from by decide +kernel) rfl).trans ?_
  refine (r_getI (show decode (zb m_House_readClauses) 40 = .ok (.getfield 56, 3) from by decide +kernel) rfl rfl h1).trans ?_
  exact r_virt (args := [.int ((3 : Int32)), .int (gI σ a1 5)]) (rest := []) (show decode (zb m_House_readClauses) 43 = .ok (.invokevirtual 59, 3) from by decide +kernel) rfl rfl rfl h1
theorem b_House_readClauses_46 {C : CF} {d : Nat} {σ : HP} {a0 : Nat} {a1 : Nat} {x3 : Int32} {l2 : Option Value} (h1 : a0 % 64 = 2) : runF C d m_House_readClauses (46, [some (.ref a0), some (.ref a1), l2, some (.int x3)], [], σ) = bk C d m_House_readClauses 49 [some (.ref a0), some (.ref a1), l2, some (.int x3)] [] (C m_House_readClause [.ref a0, .ref a1, .int x3] σ) := by
  refine (r_aloadn 0 (show decode (zb m_House_readClauses) 46 = .ok (.aload_n 0, 1) from by decide +kernel) rfl).trans ?_
  refine (r_aloadn 1 (show decode (zb m_House_readClauses) 47 = .ok (.aload_n 1, 1) from by decide +kernel) rfl).trans ?_
  refine (r_iloadn 3 (show decode (zb m_House_readClauses) 48 = .ok (.iload_n 3, 1) from by decide +kernel) rfl).trans ?_
  exact r_virt (args := [.ref a1, .int x3]) (rest := []) (show decode (zb m_House_readClauses) 49 = .ok (.invokevirtual 63, 3) from by decide +kernel) rfl rfl rfl h1
theorem b_House_readClauses_52 {C : CF} {d : Nat} {σ : HP} {a1 : Nat} {l0 : Option Value} {l2 : Option Value} {l3 : Option Value} (h1 : a1 % 64 = 7) : runF C d m_House_readClauses (52, [l0, some (.ref a1), l2, l3], [], σ) = bk C d m_House_readClauses 55 [l0, some (.ref a1), l2, l3] [] (C m_Reader_needSign [.ref a1, .int ((59 : Int32))] σ) := by
  refine (r_aloadn 1 (show decode (zb m_House_readClauses) 52 = .ok (.aload_n 1, 1) from by decide +kernel) rfl).trans ?_
  refine (r_bipush (v := (59 : Int32)) (show decode (zb m_House_readClauses) 53 = .ok (.bipush (59), 2) from by decide +kernel) (by decide)).trans ?_
  exact r_virt (args := [.int ((59 : Int32))]) (rest := []) (show decode (zb m_House_readClauses) 55 = .ok (.invokevirtual 67, 3) from by decide +kernel) rfl rfl rfl h1
theorem b_House_readClauses_58 {C : CF} {d : Nat} {σ : HP} {x2 : Int32} {l0 : Option Value} {l1 : Option Value} {l3 : Option Value}  : runF C d m_House_readClauses (58, [l0, l1, some (.int x2), l3], [], σ) = runF C d m_House_readClauses (2, [l0, l1, some (.int (x2 + (1 : Int32))), l3], [], σ) := by
  refine (r_iinc 2 (v := (1 : Int32)) (show decode (zb m_House_readClauses) 58 = .ok (.iinc 2 (1), 3) from by decide +kernel) rfl rfl (by decide)).trans ?_
  exact r_goto 2 (show decode (zb m_House_readClauses) 61 = .ok (.goto (-59), 3) from by decide +kernel) rfl
theorem b_House_readClauses_64 {C : CF} {d : Nat} {σ : HP} {l0 : Option Value} {l1 : Option Value} {l2 : Option Value} {l3 : Option Value}  : runF C d m_House_readClauses (64, [l0, l1, l2, l3], [], σ) = some (.inl none, σ) := by
  exact r_vret (show decode (zb m_House_readClauses) 64 = .ok (.return_, 1) from by decide +kernel) rfl
theorem e_House_readClause {d : Nat} {σ : HP} {a0 : Nat} {a1 : Nat} {x2 : Int32} : callF (d + 1) m_House_readClause [.ref a0, .ref a1, .int x2] σ = runF (callF d) d m_House_readClause (0, [some (.ref a0), some (.ref a1), some (.int x2)], [], σ) := callF_in rfl rfl
theorem b_House_readClause_0 {C : CF} {d : Nat} {σ : HP} {x2 : Int32} {l0 : Option Value} {l1 : Option Value}  : runF C d m_House_readClause (0, [l0, l1, some (.int x2)], [], σ) = if x2 = 0 then runF C d m_House_readClause (32, [l0, l1, some (.int x2)], [], σ) else if x2 = 1 then runF C d m_House_readClause (40, [l0, l1, some (.int x2)], [], σ) else if x2 = 2 then runF C d m_House_readClause (48, [l0, l1, some (.int x2)], [], σ) else if x2 = 3 then runF C d m_House_readClause (56, [l0, l1, some (.int x2)], [], σ) else runF C d m_House_readClause (71, [l0, l1, some (.int x2)], [], σ) := by
  refine (r_iloadn 2 (show decode (zb m_House_readClause) 0 = .ok (.iload_n 2, 1) from by decide +kernel) rfl).trans ?_
  by_cases q0 : x2 = 0
  · rw [if_pos q0]
    exact r_table 32 (show decode (zb m_House_readClause) 1 = .ok (.tableswitch (70) (0) (3) #[(31), (39), (47), (55)], 31) from by decide +kernel) (tb_in q0 rfl rfl rfl)
  rw [if_neg q0]
  by_cases q1 : x2 = 1
  · rw [if_pos q1]
    exact r_table 40 (show decode (zb m_House_readClause) 1 = .ok (.tableswitch (70) (0) (3) #[(31), (39), (47), (55)], 31) from by decide +kernel) (tb_in q1 rfl rfl rfl)
  rw [if_neg q1]
  by_cases q2 : x2 = 2
  · rw [if_pos q2]
    exact r_table 48 (show decode (zb m_House_readClause) 1 = .ok (.tableswitch (70) (0) (3) #[(31), (39), (47), (55)], 31) from by decide +kernel) (tb_in q2 rfl rfl rfl)
  rw [if_neg q2]
  by_cases q3 : x2 = 3
  · rw [if_pos q3]
    exact r_table 56 (show decode (zb m_House_readClause) 1 = .ok (.tableswitch (70) (0) (3) #[(31), (39), (47), (55)], 31) from by decide +kernel) (tb_in q3 rfl rfl rfl)
  rw [if_neg q3]
  have e0 : (Int32.toInt x2) ≠ 0 := ne_toInt q0
  have e1 : (Int32.toInt x2) ≠ 1 := ne_toInt q1
  have e2 : (Int32.toInt x2) ≠ 2 := ne_toInt q2
  have e3 : (Int32.toInt x2) ≠ 3 := ne_toInt q3
  exact r_table 71 (show decode (zb m_House_readClause) 1 = .ok (.tableswitch (70) (0) (3) #[(31), (39), (47), (55)], 31) from by decide +kernel) (tb_out (by omega) rfl)
theorem b_House_readClause_32 {C : CF} {d : Nat} {σ : HP} {a0 : Nat} {a1 : Nat} {l2 : Option Value} (h1 : a0 % 64 = 2) : runF C d m_House_readClause (32, [some (.ref a0), some (.ref a1), l2], [], σ) = bk C d m_House_readClause 34 [some (.ref a0), some (.ref a1), l2] [] (C m_House_readFloors [.ref a0, .ref a1] σ) := by
  refine (r_aloadn 0 (show decode (zb m_House_readClause) 32 = .ok (.aload_n 0, 1) from by decide +kernel) rfl).trans ?_
  refine (r_aloadn 1 (show decode (zb m_House_readClause) 33 = .ok (.aload_n 1, 1) from by decide +kernel) rfl).trans ?_
  exact r_virt (args := [.ref a1]) (rest := []) (show decode (zb m_House_readClause) 34 = .ok (.invokevirtual 71, 3) from by decide +kernel) rfl rfl rfl h1
theorem b_House_readClause_37 {C : CF} {d : Nat} {σ : HP} {l0 : Option Value} {l1 : Option Value} {l2 : Option Value}  : runF C d m_House_readClause (37, [l0, l1, l2], [], σ) = runF C d m_House_readClause (71, [l0, l1, l2], [], σ) := by
  exact r_goto 71 (show decode (zb m_House_readClause) 37 = .ok (.goto (34), 3) from by decide +kernel) rfl
theorem b_House_readClause_40 {C : CF} {d : Nat} {σ : HP} {a0 : Nat} {a1 : Nat} {l2 : Option Value} (h1 : a0 % 64 = 2) : runF C d m_House_readClause (40, [some (.ref a0), some (.ref a1), l2], [], σ) = bk C d m_House_readClause 42 [some (.ref a0), some (.ref a1), l2] [] (C m_House_readMan [.ref a0, .ref a1] σ) := by
  refine (r_aloadn 0 (show decode (zb m_House_readClause) 40 = .ok (.aload_n 0, 1) from by decide +kernel) rfl).trans ?_
  refine (r_aloadn 1 (show decode (zb m_House_readClause) 41 = .ok (.aload_n 1, 1) from by decide +kernel) rfl).trans ?_
  exact r_virt (args := [.ref a1]) (rest := []) (show decode (zb m_House_readClause) 42 = .ok (.invokevirtual 75, 3) from by decide +kernel) rfl rfl rfl h1
theorem b_House_readClause_45 {C : CF} {d : Nat} {σ : HP} {l0 : Option Value} {l1 : Option Value} {l2 : Option Value}  : runF C d m_House_readClause (45, [l0, l1, l2], [], σ) = runF C d m_House_readClause (71, [l0, l1, l2], [], σ) := by
  exact r_goto 71 (show decode (zb m_House_readClause) 45 = .ok (.goto (26), 3) from by decide +kernel) rfl
theorem b_House_readClause_48 {C : CF} {d : Nat} {σ : HP} {a0 : Nat} {a1 : Nat} {l2 : Option Value} (h1 : a0 % 64 = 2) : runF C d m_House_readClause (48, [some (.ref a0), some (.ref a1), l2], [], σ) = bk C d m_House_readClause 50 [some (.ref a0), some (.ref a1), l2] [] (C m_House_readCard [.ref a0, .ref a1] σ) := by
  refine (r_aloadn 0 (show decode (zb m_House_readClause) 48 = .ok (.aload_n 0, 1) from by decide +kernel) rfl).trans ?_
  refine (r_aloadn 1 (show decode (zb m_House_readClause) 49 = .ok (.aload_n 1, 1) from by decide +kernel) rfl).trans ?_
  exact r_virt (args := [.ref a1]) (rest := []) (show decode (zb m_House_readClause) 50 = .ok (.invokevirtual 78, 3) from by decide +kernel) rfl rfl rfl h1
theorem b_House_readClause_53 {C : CF} {d : Nat} {σ : HP} {l0 : Option Value} {l1 : Option Value} {l2 : Option Value}  : runF C d m_House_readClause (53, [l0, l1, l2], [], σ) = runF C d m_House_readClause (71, [l0, l1, l2], [], σ) := by
  exact r_goto 71 (show decode (zb m_House_readClause) 53 = .ok (.goto (18), 3) from by decide +kernel) rfl
theorem b_House_readClause_56 {C : CF} {d : Nat} {σ : HP} {a0 : Nat} {a1 : Nat} {l2 : Option Value} (h1 : a1 % 64 = 7) : runF C d m_House_readClause (56, [some (.ref a0), some (.ref a1), l2], [], σ) = bk C d m_House_readClause 62 [some (.ref a0), some (.ref a1), l2] [.ref a0] (C m_Reader_readNumber [.ref a1, .int ((0 : Int32)), .int ((300 : Int32))] σ) := by
  refine (r_aloadn 0 (show decode (zb m_House_readClause) 56 = .ok (.aload_n 0, 1) from by decide +kernel) rfl).trans ?_
  refine (r_aloadn 1 (show decode (zb m_House_readClause) 57 = .ok (.aload_n 1, 1) from by decide +kernel) rfl).trans ?_
  refine (r_iconst (v := (0 : Int32)) (show decode (zb m_House_readClause) 58 = .ok (.iconst (0), 1) from by decide +kernel) (by decide)).trans ?_
  refine (r_sipush (v := (300 : Int32)) (show decode (zb m_House_readClause) 59 = .ok (.sipush (300), 3) from by decide +kernel) (by decide)).trans ?_
  exact r_virt (args := [.int ((0 : Int32)), .int ((300 : Int32))]) (rest := [.ref a0]) (show decode (zb m_House_readClause) 62 = .ok (.invokevirtual 81, 3) from by decide +kernel) rfl rfl rfl h1
theorem b_House_readClause_65 {C : CF} {d : Nat} {σ : HP} {s0 : Int32} {r1 : Nat} {l0 : Option Value} {l1 : Option Value} {l2 : Option Value} (h1 : r1 % 64 = 2) : runF C d m_House_readClause (65, [l0, l1, l2], [.int s0, .ref r1], σ) = runF C d m_House_readClause (71, [l0, l1, l2], [], wI σ r1 3 s0) := by
  refine (r_putI (show decode (zb m_House_readClause) 65 = .ok (.putfield 21, 3) from by decide +kernel) rfl rfl rfl h1).trans ?_
  exact r_goto 71 (show decode (zb m_House_readClause) 68 = .ok (.goto (3), 3) from by decide +kernel) rfl
theorem b_House_readClause_71 {C : CF} {d : Nat} {σ : HP} {l0 : Option Value} {l1 : Option Value} {l2 : Option Value}  : runF C d m_House_readClause (71, [l0, l1, l2], [], σ) = some (.inl none, σ) := by
  exact r_vret (show decode (zb m_House_readClause) 71 = .ok (.return_, 1) from by decide +kernel) rfl
theorem e_House_readFloors {d : Nat} {σ : HP} {a0 : Nat} {a1 : Nat} : callF (d + 1) m_House_readFloors [.ref a0, .ref a1] σ = runF (callF d) d m_House_readFloors (0, [some (.ref a0), some (.ref a1)], [], σ) := callF_in rfl rfl
theorem b_House_readFloors_0 {C : CF} {d : Nat} {σ : HP} {a0 : Nat} {l1 : Option Value} (h1 : a0 % 64 = 2) : runF C d m_House_readFloors (0, [some (.ref a0), l1], [], σ) = if (gI σ a0 1) ≤ 0 then runF C d m_House_readFloors (16, [some (.ref a0), l1], [], σ) else runF C d m_House_readFloors (7, [some (.ref a0), l1], [], σ) := by
  refine (r_aloadn 0 (show decode (zb m_House_readFloors) 0 = .ok (.aload_n 0, 1) from by decide +kernel) rfl).trans ?_
  refine (r_getI (show decode (zb m_House_readFloors) 1 = .ok (.getfield 15, 3) from by decide +kernel) rfl rfl h1).trans ?_
  exact r_if_le 16 (show decode (zb m_House_readFloors) 4 = .ok (.ifCond .le (12), 3) from by decide +kernel) rfl
theorem b_House_readFloors_7 {C : CF} {d : Nat} {σ : HP} {a1 : Nat} {l0 : Option Value} (h1 : a1 % 64 = 7) : runF C d m_House_readFloors (7, [l0, some (.ref a1)], [], σ) = bk C d m_House_readFloors 13 [l0, some (.ref a1)] [] (C m_Reader_blame [.ref a1, .int ((3 : Int32)), .int (gI σ a1 5)] σ) := by
  refine (r_aloadn 1 (show decode (zb m_House_readFloors) 7 = .ok (.aload_n 1, 1) from by decide +kernel) rfl).trans ?_
  refine (r_iconst (v := (3 : Int32)) (show decode (zb m_House_readFloors) 8 = .ok (.iconst (3), 1) from by decide +kernel) (by decide)).trans ?_
  refine (r_aloadn 1 (show decode (zb m_House_readFloors) 9 = .ok (.aload_n 1, 1) from by decide +kernel) rfl).trans ?_
  refine (r_getI (show decode (zb m_House_readFloors) 10 = .ok (.getfield 56, 3) from by decide +kernel) rfl rfl h1).trans ?_
  exact r_virt (args := [.int ((3 : Int32)), .int (gI σ a1 5)]) (rest := []) (show decode (zb m_House_readFloors) 13 = .ok (.invokevirtual 59, 3) from by decide +kernel) rfl rfl rfl h1
theorem b_House_readFloors_16 {C : CF} {d : Nat} {σ : HP} {a0 : Nat} {a1 : Nat} (h1 : a1 % 64 = 7) : runF C d m_House_readFloors (16, [some (.ref a0), some (.ref a1)], [], σ) = bk C d m_House_readFloors 21 [some (.ref a0), some (.ref a1)] [.ref a0] (C m_Reader_readNumber [.ref a1, .int ((2 : Int32)), .int ((12 : Int32))] σ) := by
  refine (r_aloadn 0 (show decode (zb m_House_readFloors) 16 = .ok (.aload_n 0, 1) from by decide +kernel) rfl).trans ?_
  refine (r_aloadn 1 (show decode (zb m_House_readFloors) 17 = .ok (.aload_n 1, 1) from by decide +kernel) rfl).trans ?_
  refine (r_iconst (v := (2 : Int32)) (show decode (zb m_House_readFloors) 18 = .ok (.iconst (2), 1) from by decide +kernel) (by decide)).trans ?_
  refine (r_bipush (v := (12 : Int32)) (show decode (zb m_House_readFloors) 19 = .ok (.bipush (12), 2) from by decide +kernel) (by decide)).trans ?_
  exact r_virt (args := [.int ((2 : Int32)), .int ((12 : Int32))]) (rest := [.ref a0]) (show decode (zb m_House_readFloors) 21 = .ok (.invokevirtual 81, 3) from by decide +kernel) rfl rfl rfl h1
theorem b_House_readFloors_24 {C : CF} {d : Nat} {σ : HP} {s0 : Int32} {r1 : Nat} {l0 : Option Value} {l1 : Option Value} (h1 : r1 % 64 = 2) : runF C d m_House_readFloors (24, [l0, l1], [.int s0, .ref r1], σ) = some (.inl none, wI σ r1 0 s0) := by
  refine (r_putI (show decode (zb m_House_readFloors) 24 = .ok (.putfield 9, 3) from by decide +kernel) rfl rfl rfl h1).trans ?_
  exact r_vret (show decode (zb m_House_readFloors) 27 = .ok (.return_, 1) from by decide +kernel) rfl
theorem e_House_readMan {d : Nat} {σ : HP} {a0 : Nat} {a1 : Nat} : callF (d + 1) m_House_readMan [.ref a0, .ref a1] σ = runF (callF d) d m_House_readMan (0, [some (.ref a0), some (.ref a1)], [], σ) := callF_in rfl rfl
theorem b_House_readMan_0 {C : CF} {d : Nat} {σ : HP} {a0 : Nat} {l1 : Option Value} (h1 : a0 % 64 = 2) : runF C d m_House_readMan (0, [some (.ref a0), l1], [], σ) = if (gI σ a0 1) < (7 : Int32) then runF C d m_House_readMan (19, [some (.ref a0), l1], [], σ) else runF C d m_House_readMan (9, [some (.ref a0), l1], [], σ) := by
  refine (r_aloadn 0 (show decode (zb m_House_readMan) 0 = .ok (.aload_n 0, 1) from by decide +kernel) rfl).trans ?_
  refine (r_getI (show decode (zb m_House_readMan) 1 = .ok (.getfield 15, 3) from by decide +kernel) rfl rfl h1).trans ?_
  refine (r_bipush (v := (7 : Int32)) (show decode (zb m_House_readMan) 4 = .ok (.bipush (7), 2) from by decide +kernel) (by decide)).trans ?_
  exact r_icmp_lt 19 (show decode (zb m_House_readMan) 6 = .ok (.if_icmp .lt (13), 3) from by decide +kernel) rfl
theorem b_House_readMan_9 {C : CF} {d : Nat} {σ : HP} {a1 : Nat} {l0 : Option Value} (h1 : a1 % 64 = 7) : runF C d m_House_readMan (9, [l0, some (.ref a1)], [], σ) = bk C d m_House_readMan 15 [l0, some (.ref a1)] [] (C m_Reader_blame [.ref a1, .int ((3 : Int32)), .int (gI σ a1 5)] σ) := by
  refine (r_aloadn 1 (show decode (zb m_House_readMan) 9 = .ok (.aload_n 1, 1) from by decide +kernel) rfl).trans ?_
  refine (r_iconst (v := (3 : Int32)) (show decode (zb m_House_readMan) 10 = .ok (.iconst (3), 1) from by decide +kernel) (by decide)).trans ?_
  refine (r_aloadn 1 (show decode (zb m_House_readMan) 11 = .ok (.aload_n 1, 1) from by decide +kernel) rfl).trans ?_
  refine (r_getI (show decode (zb m_House_readMan) 12 = .ok (.getfield 56, 3) from by decide +kernel) rfl rfl h1).trans ?_
  exact r_virt (args := [.int ((3 : Int32)), .int (gI σ a1 5)]) (rest := []) (show decode (zb m_House_readMan) 15 = .ok (.invokevirtual 59, 3) from by decide +kernel) rfl rfl rfl h1
theorem b_House_readMan_18 {C : CF} {d : Nat} {σ : HP} {l0 : Option Value} {l1 : Option Value}  : runF C d m_House_readMan (18, [l0, l1], [], σ) = some (.inl none, σ) := by
  exact r_vret (show decode (zb m_House_readMan) 18 = .ok (.return_, 1) from by decide +kernel) rfl
theorem b_House_readMan_19 {C : CF} {d : Nat} {σ : HP} {a0 : Nat} {a1 : Nat} (h1 : a0 % 64 = 2) (h2 : (gR σ a0 4).isSome = true) (h3 : a1 % 64 = 7) : runF C d m_House_readMan (19, [some (.ref a0), some (.ref a1)], [], σ) = bk C d m_House_readMan 35 [some (.ref a0), some (.ref a1)] [.int (gI σ a0 1), .ref (dr (gR σ a0 4))] (C m_Reader_readNumber [.ref a1, .int ((0 : Int32)), .int ((gI σ a0 0) - (1 : Int32))] σ) := by
  refine (r_aloadn 0 (show decode (zb m_House_readMan) 19 = .ok (.aload_n 0, 1) from by decide +kernel) rfl).trans ?_
  refine (r_getR (show decode (zb m_House_readMan) 20 = .ok (.getfield 24, 3) from by decide +kernel) rfl rfl h1 h2).trans ?_
  refine (r_aloadn 0 (show decode (zb m_House_readMan) 23 = .ok (.aload_n 0, 1) from by decide +kernel) rfl).trans ?_
  refine (r_getI (show decode (zb m_House_readMan) 24 = .ok (.getfield 15, 3) from by decide +kernel) rfl rfl h1).trans ?_
  refine (r_aloadn 1 (show decode (zb m_House_readMan) 27 = .ok (.aload_n 1, 1) from by decide +kernel) rfl).trans ?_
  refine (r_iconst (v := (0 : Int32)) (show decode (zb m_House_readMan) 28 = .ok (.iconst (0), 1) from by decide +kernel) (by decide)).trans ?_
  refine (r_aloadn 0 (show decode (zb m_House_readMan) 29 = .ok (.aload_n 0, 1) from by decide +kernel) rfl).trans ?_
  refine (r_getI (show decode (zb m_House_readMan) 30 = .ok (.getfield 9, 3) from by decide +kernel) rfl rfl h1).trans ?_
  refine (r_iconst (v := (1 : Int32)) (show decode (zb m_House_readMan) 33 = .ok (.iconst (1), 1) from by decide +kernel) (by decide)).trans ?_
  refine (r_isub (show decode (zb m_House_readMan) 34 = .ok (.isub, 1) from by decide +kernel)).trans ?_
  exact r_virt (args := [.int ((0 : Int32)), .int ((gI σ a0 0) - (1 : Int32))]) (rest := [.int (gI σ a0 1), .ref (dr (gR σ a0 4))]) (show decode (zb m_House_readMan) 35 = .ok (.invokevirtual 81, 3) from by decide +kernel) rfl rfl rfl h3
theorem b_House_readMan_38 {C : CF} {d : Nat} {σ : HP} {s0 : Int32} {s1 : Int32} {r2 : Nat} {l0 : Option Value} {l1 : Option Value}  : runF C d m_House_readMan (38, [l0, l1], [.int s0, .int s1, .ref r2], σ) = bkN C d m_House_readMan 38 [l0, l1] [] (C m_PL_put [.ref r2, .int s1, .int s0] σ) := by
  exact r_stat (args := [.ref r2, .int s1, .int s0]) (rest := []) (show decode (zb m_House_readMan) 38 = .ok (.invokestatic 85, 3) from by decide +kernel) rfl (by decide) rfl rfl
theorem b_House_readMan_41 {C : CF} {d : Nat} {σ : HP} {a0 : Nat} {a1 : Nat} (h1 : a0 % 64 = 2) (h2 : (gR σ a0 5).isSome = true) (h3 : a1 % 64 = 7) : runF C d m_House_readMan (41, [some (.ref a0), some (.ref a1)], [], σ) = bk C d m_House_readMan 53 [some (.ref a0), some (.ref a1)] [.int (gI σ a0 1), .ref (dr (gR σ a0 5))] (C m_Reader_readNumber [.ref a1, .int ((1 : Int32)), .int ((60 : Int32))] σ) := by
  refine (r_aloadn 0 (show decode (zb m_House_readMan) 41 = .ok (.aload_n 0, 1) from by decide +kernel) rfl).trans ?_
  refine (r_getR (show decode (zb m_House_readMan) 42 = .ok (.getfield 28, 3) from by decide +kernel) rfl rfl h1 h2).trans ?_
  refine (r_aloadn 0 (show decode (zb m_House_readMan) 45 = .ok (.aload_n 0, 1) from by decide +kernel) rfl).trans ?_
  refine (r_getI (show decode (zb m_House_readMan) 46 = .ok (.getfield 15, 3) from by decide +kernel) rfl rfl h1).trans ?_
  refine (r_aloadn 1 (show decode (zb m_House_readMan) 49 = .ok (.aload_n 1, 1) from by decide +kernel) rfl).trans ?_
  refine (r_iconst (v := (1 : Int32)) (show decode (zb m_House_readMan) 50 = .ok (.iconst (1), 1) from by decide +kernel) (by decide)).trans ?_
  refine (r_bipush (v := (60 : Int32)) (show decode (zb m_House_readMan) 51 = .ok (.bipush (60), 2) from by decide +kernel) (by decide)).trans ?_
  exact r_virt (args := [.int ((1 : Int32)), .int ((60 : Int32))]) (rest := [.int (gI σ a0 1), .ref (dr (gR σ a0 5))]) (show decode (zb m_House_readMan) 53 = .ok (.invokevirtual 81, 3) from by decide +kernel) rfl rfl rfl h3
theorem b_House_readMan_56 {C : CF} {d : Nat} {σ : HP} {s0 : Int32} {s1 : Int32} {r2 : Nat} {l0 : Option Value} {l1 : Option Value}  : runF C d m_House_readMan (56, [l0, l1], [.int s0, .int s1, .ref r2], σ) = bkN C d m_House_readMan 56 [l0, l1] [] (C m_PL_put [.ref r2, .int s1, .int s0] σ) := by
  exact r_stat (args := [.ref r2, .int s1, .int s0]) (rest := []) (show decode (zb m_House_readMan) 56 = .ok (.invokestatic 85, 3) from by decide +kernel) rfl (by decide) rfl rfl
theorem b_House_readMan_59 {C : CF} {d : Nat} {σ : HP} {a0 : Nat} {a1 : Nat} (h1 : a0 % 64 = 2) (h2 : (gR σ a0 6).isSome = true) (h3 : a1 % 64 = 7) : runF C d m_House_readMan (59, [some (.ref a0), some (.ref a1)], [], σ) = bk C d m_House_readMan 71 [some (.ref a0), some (.ref a1)] [.int (gI σ a0 1), .ref (dr (gR σ a0 6))] (C m_Reader_readNumber [.ref a1, .int ((0 : Int32)), .int ((9 : Int32))] σ) := by
  refine (r_aloadn 0 (show decode (zb m_House_readMan) 59 = .ok (.aload_n 0, 1) from by decide +kernel) rfl).trans ?_
  refine (r_getR (show decode (zb m_House_readMan) 60 = .ok (.getfield 31, 3) from by decide +kernel) rfl rfl h1 h2).trans ?_
  refine (r_aloadn 0 (show decode (zb m_House_readMan) 63 = .ok (.aload_n 0, 1) from by decide +kernel) rfl).trans ?_
  refine (r_getI (show decode (zb m_House_readMan) 64 = .ok (.getfield 15, 3) from by decide +kernel) rfl rfl h1).trans ?_
  refine (r_aloadn 1 (show decode (zb m_House_readMan) 67 = .ok (.aload_n 1, 1) from by decide +kernel) rfl).trans ?_
  refine (r_iconst (v := (0 : Int32)) (show decode (zb m_House_readMan) 68 = .ok (.iconst (0), 1) from by decide +kernel) (by decide)).trans ?_
  refine (r_bipush (v := (9 : Int32)) (show decode (zb m_House_readMan) 69 = .ok (.bipush (9), 2) from by decide +kernel) (by decide)).trans ?_
  exact r_virt (args := [.int ((0 : Int32)), .int ((9 : Int32))]) (rest := [.int (gI σ a0 1), .ref (dr (gR σ a0 6))]) (show decode (zb m_House_readMan) 71 = .ok (.invokevirtual 81, 3) from by decide +kernel) rfl rfl rfl h3
theorem b_House_readMan_74 {C : CF} {d : Nat} {σ : HP} {s0 : Int32} {s1 : Int32} {r2 : Nat} {l0 : Option Value} {l1 : Option Value}  : runF C d m_House_readMan (74, [l0, l1], [.int s0, .int s1, .ref r2], σ) = bkN C d m_House_readMan 74 [l0, l1] [] (C m_PL_put [.ref r2, .int s1, .int s0] σ) := by
  exact r_stat (args := [.ref r2, .int s1, .int s0]) (rest := []) (show decode (zb m_House_readMan) 74 = .ok (.invokestatic 85, 3) from by decide +kernel) rfl (by decide) rfl rfl
theorem b_House_readMan_77 {C : CF} {d : Nat} {σ : HP} {a0 : Nat} {l1 : Option Value} (h1 : a0 % 64 = 2) : runF C d m_House_readMan (77, [some (.ref a0), l1], [], σ) = some (.inl none, wI σ a0 1 ((gI σ a0 1) + (1 : Int32))) := by
  refine (r_aloadn 0 (show decode (zb m_House_readMan) 77 = .ok (.aload_n 0, 1) from by decide +kernel) rfl).trans ?_
  refine (r_dupR (show decode (zb m_House_readMan) 78 = .ok (.dup, 1) from by decide +kernel)).trans ?_
  refine (r_getI (show decode (zb m_House_readMan) 79 = .ok (.getfield 15, 3) from by decide +kernel) rfl rfl h1).trans ?_
  refine (r_iconst (v := (1 : Int32)) (show decode (zb m_House_readMan) 82 = .ok (.iconst (1), 1) from by decide +kernel) (by decide)).trans ?_
  refine (r_iadd (show decode (zb m_House_readMan) 83 = .ok (.iadd, 1) from by decide +kernel)).trans ?_
  refine (r_putI (show decode (zb m_House_readMan) 84 = .ok (.putfield 15, 3) from by decide +kernel) rfl rfl rfl h1).trans ?_
  exact r_vret (show decode (zb m_House_readMan) 87 = .ok (.return_, 1) from by decide +kernel) rfl
theorem e_House_readCard {d : Nat} {σ : HP} {a0 : Nat} {a1 : Nat} : callF (d + 1) m_House_readCard [.ref a0, .ref a1] σ = runF (callF d) d m_House_readCard (0, [some (.ref a0), some (.ref a1)], [], σ) := callF_in rfl rfl
theorem b_House_readCard_0 {C : CF} {d : Nat} {σ : HP} {a0 : Nat} {l1 : Option Value} (h1 : a0 % 64 = 2) : runF C d m_House_readCard (0, [some (.ref a0), l1], [], σ) = if (gI σ a0 2) < (8 : Int32) then runF C d m_House_readCard (19, [some (.ref a0), l1], [], σ) else runF C d m_House_readCard (9, [some (.ref a0), l1], [], σ) := by
  refine (r_aloadn 0 (show decode (zb m_House_readCard) 0 = .ok (.aload_n 0, 1) from by decide +kernel) rfl).trans ?_
  refine (r_getI (show decode (zb m_House_readCard) 1 = .ok (.getfield 18, 3) from by decide +kernel) rfl rfl h1).trans ?_
  refine (r_bipush (v := (8 : Int32)) (show decode (zb m_House_readCard) 4 = .ok (.bipush (8), 2) from by decide +kernel) (by decide)).trans ?_
  exact r_icmp_lt 19 (show decode (zb m_House_readCard) 6 = .ok (.if_icmp .lt (13), 3) from by decide +kernel) rfl
theorem b_House_readCard_9 {C : CF} {d : Nat} {σ : HP} {a1 : Nat} {l0 : Option Value} (h1 : a1 % 64 = 7) : runF C d m_House_readCard (9, [l0, some (.ref a1)], [], σ) = bk C d m_House_readCard 15 [l0, some (.ref a1)] [] (C m_Reader_blame [.ref a1, .int ((3 : Int32)), .int (gI σ a1 5)] σ) := by
  refine (r_aloadn 1 (show decode (zb m_House_readCard) 9 = .ok (.aload_n 1, 1) from by decide +kernel) rfl).trans ?_
  refine (r_iconst (v := (3 : Int32)) (show decode (zb m_House_readCard) 10 = .ok (.iconst (3), 1) from by decide +kernel) (by decide)).trans ?_
  refine (r_aloadn 1 (show decode (zb m_House_readCard) 11 = .ok (.aload_n 1, 1) from by decide +kernel) rfl).trans ?_
  refine (r_getI (show decode (zb m_House_readCard) 12 = .ok (.getfield 56, 3) from by decide +kernel) rfl rfl h1).trans ?_
  exact r_virt (args := [.int ((3 : Int32)), .int (gI σ a1 5)]) (rest := []) (show decode (zb m_House_readCard) 15 = .ok (.invokevirtual 59, 3) from by decide +kernel) rfl rfl rfl h1
theorem b_House_readCard_18 {C : CF} {d : Nat} {σ : HP} {l0 : Option Value} {l1 : Option Value}  : runF C d m_House_readCard (18, [l0, l1], [], σ) = some (.inl none, σ) := by
  exact r_vret (show decode (zb m_House_readCard) 18 = .ok (.return_, 1) from by decide +kernel) rfl
theorem b_House_readCard_19 {C : CF} {d : Nat} {σ : HP} {a0 : Nat} {a1 : Nat} (h1 : a0 % 64 = 2) (h2 : (gR σ a0 7).isSome = true) (h3 : a1 % 64 = 7) : runF C d m_House_readCard (19, [some (.ref a0), some (.ref a1)], [], σ) = bk C d m_House_readCard 31 [some (.ref a0), some (.ref a1)] [.int (gI σ a0 2), .ref (dr (gR σ a0 7))] (C m_Reader_readNumber [.ref a1, .int ((1 : Int32)), .int ((20 : Int32))] σ) := by
  refine (r_aloadn 0 (show decode (zb m_House_readCard) 19 = .ok (.aload_n 0, 1) from by decide +kernel) rfl).trans ?_
  refine (r_getR (show decode (zb m_House_readCard) 20 = .ok (.getfield 34, 3) from by decide +kernel) rfl rfl h1 h2).trans ?_
  refine (r_aloadn 0 (show decode (zb m_House_readCard) 23 = .ok (.aload_n 0, 1) from by decide +kernel) rfl).trans ?_
  refine (r_getI (show decode (zb m_House_readCard) 24 = .ok (.getfield 18, 3) from by decide +kernel) rfl rfl h1).trans ?_
  refine (r_aloadn 1 (show decode (zb m_House_readCard) 27 = .ok (.aload_n 1, 1) from by decide +kernel) rfl).trans ?_
  refine (r_iconst (v := (1 : Int32)) (show decode (zb m_House_readCard) 28 = .ok (.iconst (1), 1) from by decide +kernel) (by decide)).trans ?_
  refine (r_bipush (v := (20 : Int32)) (show decode (zb m_House_readCard) 29 = .ok (.bipush (20), 2) from by decide +kernel) (by decide)).trans ?_
  exact r_virt (args := [.int ((1 : Int32)), .int ((20 : Int32))]) (rest := [.int (gI σ a0 2), .ref (dr (gR σ a0 7))]) (show decode (zb m_House_readCard) 31 = .ok (.invokevirtual 81, 3) from by decide +kernel) rfl rfl rfl h3
theorem b_House_readCard_34 {C : CF} {d : Nat} {σ : HP} {s0 : Int32} {s1 : Int32} {r2 : Nat} {l0 : Option Value} {l1 : Option Value}  : runF C d m_House_readCard (34, [l0, l1], [.int s0, .int s1, .ref r2], σ) = bkN C d m_House_readCard 34 [l0, l1] [] (C m_PL_put [.ref r2, .int s1, .int s0] σ) := by
  exact r_stat (args := [.ref r2, .int s1, .int s0]) (rest := []) (show decode (zb m_House_readCard) 34 = .ok (.invokestatic 85, 3) from by decide +kernel) rfl (by decide) rfl rfl
theorem b_House_readCard_37 {C : CF} {d : Nat} {σ : HP} {a0 : Nat} {a1 : Nat} (h1 : a0 % 64 = 2) (h2 : (gR σ a0 8).isSome = true) (h3 : a1 % 64 = 7) : runF C d m_House_readCard (37, [some (.ref a0), some (.ref a1)], [], σ) = bk C d m_House_readCard 49 [some (.ref a0), some (.ref a1)] [.int (gI σ a0 2), .ref (dr (gR σ a0 8))] (C m_Reader_readNumber [.ref a1, .int ((0 : Int32)), .int ((9 : Int32))] σ) := by
  refine (r_aloadn 0 (show decode (zb m_House_readCard) 37 = .ok (.aload_n 0, 1) from by decide +kernel) rfl).trans ?_
  refine (r_getR (show decode (zb m_House_readCard) 38 = .ok (.getfield 37, 3) from by decide +kernel) rfl rfl h1 h2).trans ?_
  refine (r_aloadn 0 (show decode (zb m_House_readCard) 41 = .ok (.aload_n 0, 1) from by decide +kernel) rfl).trans ?_
  refine (r_getI (show decode (zb m_House_readCard) 42 = .ok (.getfield 18, 3) from by decide +kernel) rfl rfl h1).trans ?_
  refine (r_aloadn 1 (show decode (zb m_House_readCard) 45 = .ok (.aload_n 1, 1) from by decide +kernel) rfl).trans ?_
  refine (r_iconst (v := (0 : Int32)) (show decode (zb m_House_readCard) 46 = .ok (.iconst (0), 1) from by decide +kernel) (by decide)).trans ?_
  refine (r_bipush (v := (9 : Int32)) (show decode (zb m_House_readCard) 47 = .ok (.bipush (9), 2) from by decide +kernel) (by decide)).trans ?_
  exact r_virt (args := [.int ((0 : Int32)), .int ((9 : Int32))]) (rest := [.int (gI σ a0 2), .ref (dr (gR σ a0 8))]) (show decode (zb m_House_readCard) 49 = .ok (.invokevirtual 81, 3) from by decide +kernel) rfl rfl rfl h3
theorem b_House_readCard_52 {C : CF} {d : Nat} {σ : HP} {s0 : Int32} {s1 : Int32} {r2 : Nat} {l0 : Option Value} {l1 : Option Value}  : runF C d m_House_readCard (52, [l0, l1], [.int s0, .int s1, .ref r2], σ) = bkN C d m_House_readCard 52 [l0, l1] [] (C m_PL_put [.ref r2, .int s1, .int s0] σ) := by
  exact r_stat (args := [.ref r2, .int s1, .int s0]) (rest := []) (show decode (zb m_House_readCard) 52 = .ok (.invokestatic 85, 3) from by decide +kernel) rfl (by decide) rfl rfl
theorem b_House_readCard_55 {C : CF} {d : Nat} {σ : HP} {a0 : Nat} {l1 : Option Value} (h1 : a0 % 64 = 2) : runF C d m_House_readCard (55, [some (.ref a0), l1], [], σ) = some (.inl none, wI σ a0 2 ((gI σ a0 2) + (1 : Int32))) := by
  refine (r_aloadn 0 (show decode (zb m_House_readCard) 55 = .ok (.aload_n 0, 1) from by decide +kernel) rfl).trans ?_
  refine (r_dupR (show decode (zb m_House_readCard) 56 = .ok (.dup, 1) from by decide +kernel)).trans ?_
  refine (r_getI (show decode (zb m_House_readCard) 57 = .ok (.getfield 18, 3) from by decide +kernel) rfl rfl h1).trans ?_
  refine (r_iconst (v := (1 : Int32)) (show decode (zb m_House_readCard) 60 = .ok (.iconst (1), 1) from by decide +kernel) (by decide)).trans ?_
  refine (r_iadd (show decode (zb m_House_readCard) 61 = .ok (.iadd, 1) from by decide +kernel)).trans ?_
  refine (r_putI (show decode (zb m_House_readCard) 62 = .ok (.putfield 18, 3) from by decide +kernel) rfl rfl rfl h1).trans ?_
  exact r_vret (show decode (zb m_House_readCard) 65 = .ok (.return_, 1) from by decide +kernel) rfl
theorem e_Image_init {d : Nat} {σ : HP} {a0 : Nat} {x1 : Int32} : callF (d + 1) m_Image_init [.ref a0, .int x1] σ = runF (callF d) d m_Image_init (0, [some (.ref a0), some (.int x1)], [], σ) := callF_in rfl rfl
theorem b_Image_init_0 {C : CF} {d : Nat} {σ : HP} {a0 : Nat} {l1 : Option Value} (h1 : a0 % 64 = 3) : runF C d m_Image_init (0, [some (.ref a0), l1], [], σ) = bkN C d m_Image_init 9 [some (.ref a0), l1] [.ref (1 + 64 * hN σ), .ref a0] (C m_Days_init [.ref (1 + 64 * hN σ)] (hA σ 1 8)) := by
  refine (r_aloadn 0 (show decode (zb m_Image_init) 0 = .ok (.aload_n 0, 1) from by decide +kernel) rfl).trans ?_
  refine (r_obj (show decode (zb m_Image_init) 1 = .ok (.invokespecial 3, 3) from by decide +kernel) rfl (by have := h1; omega) rfl).trans ?_
  refine (r_aloadn 0 (show decode (zb m_Image_init) 4 = .ok (.aload_n 0, 1) from by decide +kernel) rfl).trans ?_
  refine (r_new (ci := 1) (show decode (zb m_Image_init) 5 = .ok (.new 9, 3) from by decide +kernel) rfl).trans ?_
  refine (r_dupR (show decode (zb m_Image_init) 8 = .ok (.dup, 1) from by decide +kernel)).trans ?_
  exact r_spec (args := []) (rest := [.ref (1 + 64 * hN σ), .ref a0]) (show decode (zb m_Image_init) 9 = .ok (.invokespecial 11, 3) from by decide +kernel) rfl (by decide) rfl rfl (show (1 + 64 * hN σ) % 64 = 1 from by omega)
theorem b_Image_init_12 {C : CF} {d : Nat} {σ : HP} {r0 : Nat} {r1 : Nat} {a0 : Nat} {x1 : Int32} (h1 : r1 % 64 = 3) (h2 : a0 % 64 = 3) : runF C d m_Image_init (12, [some (.ref a0), some (.int x1)], [.ref r0, .ref r1], σ) = some (.inl none, wI (wR (hA (wR σ r1 0 (some r0)) 37 16) a0 1 (some (37 + 64 * hN σ))) a0 2 x1) := by
  refine (r_putR (show decode (zb m_Image_init) 12 = .ok (.putfield 12, 3) from by decide +kernel) rfl rfl rfl h1).trans ?_
  refine (r_aloadn 0 (show decode (zb m_Image_init) 15 = .ok (.aload_n 0, 1) from by decide +kernel) rfl).trans ?_
  refine (r_bipush (v := (16 : Int32)) (show decode (zb m_Image_init) 16 = .ok (.bipush (16), 2) from by decide +kernel) (by decide)).trans ?_
  refine (r_arrA (k := 37) (e := 4) (show decode (zb m_Image_init) 18 = .ok (.anewarray 9, 3) from by decide +kernel) rfl (by decide) (by decide)).trans ?_
  refine (r_putR (show decode (zb m_Image_init) 21 = .ok (.putfield 18, 3) from by decide +kernel) rfl rfl rfl h2).trans ?_
  refine (r_aloadn 0 (show decode (zb m_Image_init) 24 = .ok (.aload_n 0, 1) from by decide +kernel) rfl).trans ?_
  refine (r_iloadn 1 (show decode (zb m_Image_init) 25 = .ok (.iload_n 1, 1) from by decide +kernel) rfl).trans ?_
  refine (r_putI (show decode (zb m_Image_init) 26 = .ok (.putfield 22, 3) from by decide +kernel) rfl rfl rfl h2).trans ?_
  exact r_vret (show decode (zb m_Image_init) 29 = .ok (.return_, 1) from by decide +kernel) rfl
theorem e_Law_init {d : Nat} {σ : HP} {a0 : Nat} : callF (d + 1) m_Law_init [.ref a0] σ = runF (callF d) d m_Law_init (0, [some (.ref a0)], [], σ) := callF_in rfl rfl
theorem b_Law_init_0 {C : CF} {d : Nat} {σ : HP} {a0 : Nat} (h1 : a0 % 64 = 4) : runF C d m_Law_init (0, [some (.ref a0)], [], σ) = bk C d m_Law_init 36 [some (.ref a0)] [] (C m_Law_setUsual [.ref a0] (wI (wR (hA (wR (hA (wR (hA σ 29 150) a0 0 (some (29 + 64 * hN σ))) 29 150) a0 1 (some (29 + 64 * (hN σ + 1)))) 23 9) a0 2 (some (23 + 64 * (hN σ + 2)))) a0 3 (0 : Int32))) := by
  refine (r_aloadn 0 (show decode (zb m_Law_init) 0 = .ok (.aload_n 0, 1) from by decide +kernel) rfl).trans ?_
  refine (r_obj (show decode (zb m_Law_init) 1 = .ok (.invokespecial 3, 3) from by decide +kernel) rfl (by have := h1; omega) rfl).trans ?_
  refine (r_aloadn 0 (show decode (zb m_Law_init) 4 = .ok (.aload_n 0, 1) from by decide +kernel) rfl).trans ?_
  refine (r_sipush (v := (150 : Int32)) (show decode (zb m_Law_init) 5 = .ok (.sipush (150), 3) from by decide +kernel) (by decide)).trans ?_
  refine (r_arrI (k := 29) (show decode (zb m_Law_init) 8 = .ok (.newarray .int, 2) from by decide +kernel) (by decide) (by decide)).trans ?_
  refine (r_putR (show decode (zb m_Law_init) 10 = .ok (.putfield 9, 3) from by decide +kernel) rfl rfl rfl h1).trans ?_
  refine (r_aloadn 0 (show decode (zb m_Law_init) 13 = .ok (.aload_n 0, 1) from by decide +kernel) rfl).trans ?_
  refine (r_sipush (v := (150 : Int32)) (show decode (zb m_Law_init) 14 = .ok (.sipush (150), 3) from by decide +kernel) (by decide)).trans ?_
  refine (r_arrI (k := 29) (show decode (zb m_Law_init) 17 = .ok (.newarray .int, 2) from by decide +kernel) (by decide) (by decide)).trans ?_
  refine (r_putR (show decode (zb m_Law_init) 19 = .ok (.putfield 15, 3) from by decide +kernel) rfl rfl rfl h1).trans ?_
  refine (r_aloadn 0 (show decode (zb m_Law_init) 22 = .ok (.aload_n 0, 1) from by decide +kernel) rfl).trans ?_
  refine (r_bipush (v := (9 : Int32)) (show decode (zb m_Law_init) 23 = .ok (.bipush (9), 2) from by decide +kernel) (by decide)).trans ?_
  refine (r_arrI (k := 23) (show decode (zb m_Law_init) 25 = .ok (.newarray .int, 2) from by decide +kernel) (by decide) (by decide)).trans ?_
  refine (r_putR (show decode (zb m_Law_init) 27 = .ok (.putfield 18, 3) from by decide +kernel) rfl rfl rfl h1).trans ?_
  refine (r_aloadn 0 (show decode (zb m_Law_init) 30 = .ok (.aload_n 0, 1) from by decide +kernel) rfl).trans ?_
  refine (r_iconst (v := (0 : Int32)) (show decode (zb m_Law_init) 31 = .ok (.iconst (0), 1) from by decide +kernel) (by decide)).trans ?_
  refine (r_putI (show decode (zb m_Law_init) 32 = .ok (.putfield 21, 3) from by decide +kernel) rfl rfl rfl h1).trans ?_
  refine (r_aloadn 0 (show decode (zb m_Law_init) 35 = .ok (.aload_n 0, 1) from by decide +kernel) rfl).trans ?_
  exact r_virt (args := []) (rest := []) (show decode (zb m_Law_init) 36 = .ok (.invokevirtual 25, 3) from by decide +kernel) rfl rfl rfl h1
theorem b_Law_init_39 {C : CF} {d : Nat} {σ : HP} {l0 : Option Value}  : runF C d m_Law_init (39, [l0], [], σ) = some (.inl none, σ) := by
  exact r_vret (show decode (zb m_Law_init) 39 = .ok (.return_, 1) from by decide +kernel) rfl
theorem e_Law_setUsual {d : Nat} {σ : HP} {a0 : Nat} : callF (d + 1) m_Law_setUsual [.ref a0] σ = runF (callF d) d m_Law_setUsual (0, [some (.ref a0)], [], σ) := callF_in rfl rfl
theorem b_Law_setUsual_0 {C : CF} {d : Nat} {σ : HP} {a0 : Nat} (h1 : a0 % 64 = 4) : runF C d m_Law_setUsual (0, [some (.ref a0)], [], σ) = bk C d m_Law_setUsual 1 [some (.ref a0)] [] (C m_Law_wipe [.ref a0] σ) := by
  refine (r_aloadn 0 (show decode (zb m_Law_setUsual) 0 = .ok (.aload_n 0, 1) from by decide +kernel) rfl).trans ?_
  exact r_virt (args := []) (rest := []) (show decode (zb m_Law_setUsual) 1 = .ok (.invokevirtual 28, 3) from by decide +kernel) rfl rfl rfl h1
theorem b_Law_setUsual_4 {C : CF} {d : Nat} {σ : HP} {a0 : Nat} (h1 : a0 % 64 = 4) : runF C d m_Law_setUsual (4, [some (.ref a0)], [], σ) = bk C d m_Law_setUsual 8 [some (.ref a0)] [] (C m_Law_putCode [.ref a0, .int ((1000 : Int32))] σ) := by
  refine (r_aloadn 0 (show decode (zb m_Law_setUsual) 4 = .ok (.aload_n 0, 1) from by decide +kernel) rfl).trans ?_
  refine (r_sipush (v := (1000 : Int32)) (show decode (zb m_Law_setUsual) 5 = .ok (.sipush (1000), 3) from by decide +kernel) (by decide)).trans ?_
  exact r_virt (args := [.int ((1000 : Int32))]) (rest := []) (show decode (zb m_Law_setUsual) 8 = .ok (.invokevirtual 31, 3) from by decide +kernel) rfl rfl rfl h1
theorem b_Law_setUsual_11 {C : CF} {d : Nat} {σ : HP} {a0 : Nat} (h1 : a0 % 64 = 4) : runF C d m_Law_setUsual (11, [some (.ref a0)], [], σ) = bk C d m_Law_setUsual 15 [some (.ref a0)] [] (C m_Law_putCode [.ref a0, .int ((1002 : Int32))] σ) := by
  refine (r_aloadn 0 (show decode (zb m_Law_setUsual) 11 = .ok (.aload_n 0, 1) from by decide +kernel) rfl).trans ?_
  refine (r_sipush (v := (1002 : Int32)) (show decode (zb m_Law_setUsual) 12 = .ok (.sipush (1002), 3) from by decide +kernel) (by decide)).trans ?_
  exact r_virt (args := [.int ((1002 : Int32))]) (rest := []) (show decode (zb m_Law_setUsual) 15 = .ok (.invokevirtual 31, 3) from by decide +kernel) rfl rfl rfl h1
theorem b_Law_setUsual_18 {C : CF} {d : Nat} {σ : HP} {a0 : Nat} (h1 : a0 % 64 = 4) : runF C d m_Law_setUsual (18, [some (.ref a0)], [], σ) = bk C d m_Law_setUsual 22 [some (.ref a0)] [] (C m_Law_putCode [.ref a0, .int ((2043 : Int32))] σ) := by
  refine (r_aloadn 0 (show decode (zb m_Law_setUsual) 18 = .ok (.aload_n 0, 1) from by decide +kernel) rfl).trans ?_
  refine (r_sipush (v := (2043 : Int32)) (show decode (zb m_Law_setUsual) 19 = .ok (.sipush (2043), 3) from by decide +kernel) (by decide)).trans ?_
  exact r_virt (args := [.int ((2043 : Int32))]) (rest := []) (show decode (zb m_Law_setUsual) 22 = .ok (.invokevirtual 31, 3) from by decide +kernel) rfl rfl rfl h1
theorem b_Law_setUsual_25 {C : CF} {d : Nat} {σ : HP} {a0 : Nat} (h1 : a0 % 64 = 4) : runF C d m_Law_setUsual (25, [some (.ref a0)], [], σ) = bk C d m_Law_setUsual 29 [some (.ref a0)] [] (C m_Law_putCode [.ref a0, .int ((1005 : Int32))] σ) := by
  refine (r_aloadn 0 (show decode (zb m_Law_setUsual) 25 = .ok (.aload_n 0, 1) from by decide +kernel) rfl).trans ?_
  refine (r_sipush (v := (1005 : Int32)) (show decode (zb m_Law_setUsual) 26 = .ok (.sipush (1005), 3) from by decide +kernel) (by decide)).trans ?_
  exact r_virt (args := [.int ((1005 : Int32))]) (rest := []) (show decode (zb m_Law_setUsual) 29 = .ok (.invokevirtual 31, 3) from by decide +kernel) rfl rfl rfl h1
theorem b_Law_setUsual_32 {C : CF} {d : Nat} {σ : HP} {a0 : Nat} (h1 : a0 % 64 = 4) : runF C d m_Law_setUsual (32, [some (.ref a0)], [], σ) = bk C d m_Law_setUsual 34 [some (.ref a0)] [] (C m_Law_putCode [.ref a0, .int ((2 : Int32))] σ) := by
  refine (r_aloadn 0 (show decode (zb m_Law_setUsual) 32 = .ok (.aload_n 0, 1) from by decide +kernel) rfl).trans ?_
  refine (r_iconst (v := (2 : Int32)) (show decode (zb m_Law_setUsual) 33 = .ok (.iconst (2), 1) from by decide +kernel) (by decide)).trans ?_
  exact r_virt (args := [.int ((2 : Int32))]) (rest := []) (show decode (zb m_Law_setUsual) 34 = .ok (.invokevirtual 31, 3) from by decide +kernel) rfl rfl rfl h1
theorem b_Law_setUsual_37 {C : CF} {d : Nat} {σ : HP} {a0 : Nat} (h1 : a0 % 64 = 4) : runF C d m_Law_setUsual (37, [some (.ref a0)], [], σ) = bk C d m_Law_setUsual 41 [some (.ref a0)] [] (C m_Law_putCode [.ref a0, .int ((2042 : Int32))] σ) := by
  refine (r_aloadn 0 (show decode (zb m_Law_setUsual) 37 = .ok (.aload_n 0, 1) from by decide +kernel) rfl).trans ?_
  refine (r_sipush (v := (2042 : Int32)) (show decode (zb m_Law_setUsual) 38 = .ok (.sipush (2042), 3) from by decide +kernel) (by decide)).trans ?_
  exact r_virt (args := [.int ((2042 : Int32))]) (rest := []) (show decode (zb m_Law_setUsual) 41 = .ok (.invokevirtual 31, 3) from by decide +kernel) rfl rfl rfl h1
theorem b_Law_setUsual_44 {C : CF} {d : Nat} {σ : HP} {a0 : Nat} (h1 : a0 % 64 = 4) : runF C d m_Law_setUsual (44, [some (.ref a0)], [], σ) = bk C d m_Law_setUsual 48 [some (.ref a0)] [] (C m_Law_putCode [.ref a0, .int ((2045 : Int32))] σ) := by
  refine (r_aloadn 0 (show decode (zb m_Law_setUsual) 44 = .ok (.aload_n 0, 1) from by decide +kernel) rfl).trans ?_
  refine (r_sipush (v := (2045 : Int32)) (show decode (zb m_Law_setUsual) 45 = .ok (.sipush (2045), 3) from by decide +kernel) (by decide)).trans ?_
  exact r_virt (args := [.int ((2045 : Int32))]) (rest := []) (show decode (zb m_Law_setUsual) 48 = .ok (.invokevirtual 31, 3) from by decide +kernel) rfl rfl rfl h1
theorem b_Law_setUsual_51 {C : CF} {d : Nat} {σ : HP} {l0 : Option Value}  : runF C d m_Law_setUsual (51, [l0], [], σ) = some (.inl none, σ) := by
  exact r_vret (show decode (zb m_Law_setUsual) 51 = .ok (.return_, 1) from by decide +kernel) rfl
theorem e_Law_wipe {d : Nat} {σ : HP} {a0 : Nat} : callF (d + 1) m_Law_wipe [.ref a0] σ = runF (callF d) d m_Law_wipe (0, [some (.ref a0)], [], σ) := callF_in rfl rfl
theorem b_Law_wipe_0 {C : CF} {d : Nat} {σ : HP} {a0 : Nat} (h1 : a0 % 64 = 4) : runF C d m_Law_wipe (0, [some (.ref a0)], [], σ) = some (.inl none, wI σ a0 3 (0 : Int32)) := by
  refine (r_aloadn 0 (show decode (zb m_Law_wipe) 0 = .ok (.aload_n 0, 1) from by decide +kernel) rfl).trans ?_
  refine (r_iconst (v := (0 : Int32)) (show decode (zb m_Law_wipe) 1 = .ok (.iconst (0), 1) from by decide +kernel) (by decide)).trans ?_
  refine (r_putI (show decode (zb m_Law_wipe) 2 = .ok (.putfield 21, 3) from by decide +kernel) rfl rfl rfl h1).trans ?_
  exact r_vret (show decode (zb m_Law_wipe) 5 = .ok (.return_, 1) from by decide +kernel) rfl
theorem e_Law_putCode {d : Nat} {σ : HP} {a0 : Nat} {x1 : Int32} : callF (d + 1) m_Law_putCode [.ref a0, .int x1] σ = runF (callF d) d m_Law_putCode (0, [some (.ref a0), some (.int x1)], [], σ) := callF_in rfl rfl
theorem b_Law_putCode_0 {C : CF} {d : Nat} {σ : HP} {a0 : Nat} {l1 : Option Value} (h1 : a0 % 64 = 4) : runF C d m_Law_putCode (0, [some (.ref a0), l1], [], σ) = if (gI σ a0 3) < 0 then runF C d m_Law_putCode (39, [some (.ref a0), l1], [], σ) else runF C d m_Law_putCode (7, [some (.ref a0), l1], [], σ) := by
  refine (r_aloadn 0 (show decode (zb m_Law_putCode) 0 = .ok (.aload_n 0, 1) from by decide +kernel) rfl).trans ?_
  refine (r_getI (show decode (zb m_Law_putCode) 1 = .ok (.getfield 21, 3) from by decide +kernel) rfl rfl h1).trans ?_
  exact r_if_lt 39 (show decode (zb m_Law_putCode) 4 = .ok (.ifCond .lt (35), 3) from by decide +kernel) rfl
theorem b_Law_putCode_7 {C : CF} {d : Nat} {σ : HP} {a0 : Nat} {l1 : Option Value} (h1 : a0 % 64 = 4) (h2 : (gR σ a0 0).isSome = true) (h3 : ¬ aty ((dr (gR σ a0 0)) % 64) = 0) : runF C d m_Law_putCode (7, [some (.ref a0), l1], [], σ) = if (Int32.ofNat (alen ((dr (gR σ a0 0)) % 64))) ≤ (gI σ a0 3) then runF C d m_Law_putCode (39, [some (.ref a0), l1], [], σ) else runF C d m_Law_putCode (19, [some (.ref a0), l1], [], σ) := by
  refine (r_aloadn 0 (show decode (zb m_Law_putCode) 7 = .ok (.aload_n 0, 1) from by decide +kernel) rfl).trans ?_
  refine (r_getI (show decode (zb m_Law_putCode) 8 = .ok (.getfield 21, 3) from by decide +kernel) rfl rfl h1).trans ?_
  refine (r_aloadn 0 (show decode (zb m_Law_putCode) 11 = .ok (.aload_n 0, 1) from by decide +kernel) rfl).trans ?_
  refine (r_getR (show decode (zb m_Law_putCode) 12 = .ok (.getfield 9, 3) from by decide +kernel) rfl rfl h1 h2).trans ?_
  refine (r_alen (show decode (zb m_Law_putCode) 15 = .ok (.arraylength, 1) from by decide +kernel) h3).trans ?_
  exact r_icmp_ge 39 (show decode (zb m_Law_putCode) 16 = .ok (.if_icmp .ge (23), 3) from by decide +kernel) rfl
theorem b_Law_putCode_19 {C : CF} {d : Nat} {σ : HP} {a0 : Nat} {x1 : Int32} (h1 : a0 % 64 = 4) (h2 : (gR σ a0 0).isSome = true) (h3 : aty ((dr (gR σ a0 0)) % 64) = 1) (h4 : inR (gI σ a0 3) (alen ((dr (gR σ a0 0)) % 64)) = true) : runF C d m_Law_putCode (19, [some (.ref a0), some (.int x1)], [], σ) = runF C d m_Law_putCode (39, [some (.ref a0), some (.int x1)], [], wI (wI σ (dr (gR σ a0 0)) (Int32.toNatClampNeg (gI σ a0 3)) x1) a0 3 ((gI (wI σ (dr (gR σ a0 0)) (Int32.toNatClampNeg (gI σ a0 3)) x1) a0 3) + (1 : Int32))) := by
  refine (r_aloadn 0 (show decode (zb m_Law_putCode) 19 = .ok (.aload_n 0, 1) from by decide +kernel) rfl).trans ?_
  refine (r_getR (show decode (zb m_Law_putCode) 20 = .ok (.getfield 9, 3) from by decide +kernel) rfl rfl h1 h2).trans ?_
  refine (r_aloadn 0 (show decode (zb m_Law_putCode) 23 = .ok (.aload_n 0, 1) from by decide +kernel) rfl).trans ?_
  refine (r_getI (show decode (zb m_Law_putCode) 24 = .ok (.getfield 21, 3) from by decide +kernel) rfl rfl h1).trans ?_
  refine (r_iloadn 1 (show decode (zb m_Law_putCode) 27 = .ok (.iload_n 1, 1) from by decide +kernel) rfl).trans ?_
  refine (r_iast (show decode (zb m_Law_putCode) 28 = .ok (.iastore, 1) from by decide +kernel) h3 h4).trans ?_
  refine (r_aloadn 0 (show decode (zb m_Law_putCode) 29 = .ok (.aload_n 0, 1) from by decide +kernel) rfl).trans ?_
  refine (r_dupR (show decode (zb m_Law_putCode) 30 = .ok (.dup, 1) from by decide +kernel)).trans ?_
  refine (r_getI (show decode (zb m_Law_putCode) 31 = .ok (.getfield 21, 3) from by decide +kernel) rfl rfl h1).trans ?_
  refine (r_iconst (v := (1 : Int32)) (show decode (zb m_Law_putCode) 34 = .ok (.iconst (1), 1) from by decide +kernel) (by decide)).trans ?_
  refine (r_iadd (show decode (zb m_Law_putCode) 35 = .ok (.iadd, 1) from by decide +kernel)).trans ?_
  exact r_putI (show decode (zb m_Law_putCode) 36 = .ok (.putfield 21, 3) from by decide +kernel) rfl rfl rfl h1
theorem b_Law_putCode_39 {C : CF} {d : Nat} {σ : HP} {l0 : Option Value} {l1 : Option Value}  : runF C d m_Law_putCode (39, [l0, l1], [], σ) = some (.inl none, σ) := by
  exact r_vret (show decode (zb m_Law_putCode) 39 = .ok (.return_, 1) from by decide +kernel) rfl
theorem e_Law_readSum {d : Nat} {σ : HP} {a0 : Nat} {a1 : Nat} {x2 : Int32} : callF (d + 1) m_Law_readSum [.ref a0, .ref a1, .int x2] σ = runF (callF d) d m_Law_readSum (0, [some (.ref a0), some (.ref a1), some (.int x2), none, none], [], σ) := callF_in rfl rfl
theorem b_Law_readSum_0 {C : CF} {d : Nat} {σ : HP} {a0 : Nat} {a1 : Nat} {x2 : Int32} {l3 : Option Value} {l4 : Option Value} (h1 : a0 % 64 = 4) : runF C d m_Law_readSum (0, [some (.ref a0), some (.ref a1), some (.int x2), l3, l4], [], σ) = bk C d m_Law_readSum 3 [some (.ref a0), some (.ref a1), some (.int x2), l3, l4] [] (C m_Law_readProduct [.ref a0, .ref a1, .int x2] σ) := by
  refine (r_aloadn 0 (show decode (zb m_Law_readSum) 0 = .ok (.aload_n 0, 1) from by decide +kernel) rfl).trans ?_
  refine (r_aloadn 1 (show decode (zb m_Law_readSum) 1 = .ok (.aload_n 1, 1) from by decide +kernel) rfl).trans ?_
  refine (r_iloadn 2 (show decode (zb m_Law_readSum) 2 = .ok (.iload_n 2, 1) from by decide +kernel) rfl).trans ?_
  exact r_virt (args := [.ref a1, .int x2]) (rest := []) (show decode (zb m_Law_readSum) 3 = .ok (.invokevirtual 35, 3) from by decide +kernel) rfl rfl rfl h1
theorem b_Law_readSum_6 {C : CF} {d : Nat} {σ : HP} {l0 : Option Value} {l1 : Option Value} {l2 : Option Value} {l3 : Option Value} {l4 : Option Value}  : runF C d m_Law_readSum (6, [l0, l1, l2, l3, l4], [], σ) = runF C d m_Law_readSum (8, [l0, l1, l2, some (.int ((0 : Int32))), l4], [], σ) := by
  refine (r_iconst (v := (0 : Int32)) (show decode (zb m_Law_readSum) 6 = .ok (.iconst (0), 1) from by decide +kernel) (by decide)).trans ?_
  exact r_istoren 3 (show decode (zb m_Law_readSum) 7 = .ok (.istore_n 3, 1) from by decide +kernel) rfl
theorem b_Law_readSum_8 {C : CF} {d : Nat} {σ : HP} {x3 : Int32} {l0 : Option Value} {l1 : Option Value} {l2 : Option Value} {l4 : Option Value}  : runF C d m_Law_readSum (8, [l0, l1, l2, some (.int x3), l4], [], σ) = if (150 : Int32) ≤ x3 then runF C d m_Law_readSum (71, [l0, l1, l2, some (.int x3), l4], [], σ) else runF C d m_Law_readSum (15, [l0, l1, l2, some (.int x3), l4], [], σ) := by
  refine (r_iloadn 3 (show decode (zb m_Law_readSum) 8 = .ok (.iload_n 3, 1) from by decide +kernel) rfl).trans ?_
  refine (r_sipush (v := (150 : Int32)) (show decode (zb m_Law_readSum) 9 = .ok (.sipush (150), 3) from by decide +kernel) (by decide)).trans ?_
  exact r_icmp_ge 71 (show decode (zb m_Law_readSum) 12 = .ok (.if_icmp .ge (59), 3) from by decide +kernel) rfl
theorem b_Law_readSum_15 {C : CF} {d : Nat} {σ : HP} {a1 : Nat} {l0 : Option Value} {l2 : Option Value} {l3 : Option Value} {l4 : Option Value} (h1 : a1 % 64 = 7) : runF C d m_Law_readSum (15, [l0, some (.ref a1), l2, l3, l4], [], σ) = bk C d m_Law_readSum 16 [l0, some (.ref a1), l2, l3, l4] [] (C m_Reader_failed [.ref a1] σ) := by
  refine (r_aloadn 1 (show decode (zb m_Law_readSum) 15 = .ok (.aload_n 1, 1) from by decide +kernel) rfl).trans ?_
  exact r_virt (args := []) (rest := []) (show decode (zb m_Law_readSum) 16 = .ok (.invokevirtual 39, 3) from by decide +kernel) rfl rfl rfl h1
theorem b_Law_readSum_19 {C : CF} {d : Nat} {σ : HP} {s0 : Int32} {l0 : Option Value} {l1 : Option Value} {l2 : Option Value} {l3 : Option Value} {l4 : Option Value}  : runF C d m_Law_readSum (19, [l0, l1, l2, l3, l4], [.int s0], σ) = if ¬ s0 = 0 then runF C d m_Law_readSum (71, [l0, l1, l2, l3, l4], [], σ) else runF C d m_Law_readSum (22, [l0, l1, l2, l3, l4], [], σ) := by
  exact r_if_ne 71 (show decode (zb m_Law_readSum) 19 = .ok (.ifCond .ne (52), 3) from by decide +kernel) rfl
theorem b_Law_readSum_22 {C : CF} {d : Nat} {σ : HP} {a1 : Nat} {l0 : Option Value} {l2 : Option Value} {l3 : Option Value} {l4 : Option Value} (h1 : a1 % 64 = 7) : runF C d m_Law_readSum (22, [l0, some (.ref a1), l2, l3, l4], [], σ) = bk C d m_Law_readSum 23 [l0, some (.ref a1), l2, l3, l4] [] (C m_Reader_peek [.ref a1] σ) := by
  refine (r_aloadn 1 (show decode (zb m_Law_readSum) 22 = .ok (.aload_n 1, 1) from by decide +kernel) rfl).trans ?_
  exact r_virt (args := []) (rest := []) (show decode (zb m_Law_readSum) 23 = .ok (.invokevirtual 45, 3) from by decide +kernel) rfl rfl rfl h1
theorem b_Law_readSum_26 {C : CF} {d : Nat} {σ : HP} {s0 : Int32} {l0 : Option Value} {l1 : Option Value} {l2 : Option Value} {l3 : Option Value} {l4 : Option Value}  : runF C d m_Law_readSum (26, [l0, l1, l2, l3, l4], [.int s0], σ) = if s0 = (43 : Int32) then runF C d m_Law_readSum (43, [l0, l1, l2, l3, some (.int s0)], [], σ) else runF C d m_Law_readSum (35, [l0, l1, l2, l3, some (.int s0)], [], σ) := by
  refine (r_istore 4 (show decode (zb m_Law_readSum) 26 = .ok (.istore 4, 2) from by decide +kernel) rfl).trans ?_
  refine (r_iload 4 (show decode (zb m_Law_readSum) 28 = .ok (.iload 4, 2) from by decide +kernel) rfl).trans ?_
  refine (r_bipush (v := (43 : Int32)) (show decode (zb m_Law_readSum) 30 = .ok (.bipush (43), 2) from by decide +kernel) (by decide)).trans ?_
  exact r_icmp_eq 43 (show decode (zb m_Law_readSum) 32 = .ok (.if_icmp .eq (11), 3) from by decide +kernel) rfl
theorem b_Law_readSum_35 {C : CF} {d : Nat} {σ : HP} {x4 : Int32} {l0 : Option Value} {l1 : Option Value} {l2 : Option Value} {l3 : Option Value}  : runF C d m_Law_readSum (35, [l0, l1, l2, l3, some (.int x4)], [], σ) = if x4 = (45 : Int32) then runF C d m_Law_readSum (43, [l0, l1, l2, l3, some (.int x4)], [], σ) else runF C d m_Law_readSum (42, [l0, l1, l2, l3, some (.int x4)], [], σ) := by
  refine (r_iload 4 (show decode (zb m_Law_readSum) 35 = .ok (.iload 4, 2) from by decide +kernel) rfl).trans ?_
  refine (r_bipush (v := (45 : Int32)) (show decode (zb m_Law_readSum) 37 = .ok (.bipush (45), 2) from by decide +kernel) (by decide)).trans ?_
  exact r_icmp_eq 43 (show decode (zb m_Law_readSum) 39 = .ok (.if_icmp .eq (4), 3) from by decide +kernel) rfl
theorem b_Law_readSum_42 {C : CF} {d : Nat} {σ : HP} {l0 : Option Value} {l1 : Option Value} {l2 : Option Value} {l3 : Option Value} {l4 : Option Value}  : runF C d m_Law_readSum (42, [l0, l1, l2, l3, l4], [], σ) = some (.inl none, σ) := by
  exact r_vret (show decode (zb m_Law_readSum) 42 = .ok (.return_, 1) from by decide +kernel) rfl
theorem b_Law_readSum_43 {C : CF} {d : Nat} {σ : HP} {a1 : Nat} {x4 : Int32} {l0 : Option Value} {l2 : Option Value} {l3 : Option Value} (h1 : a1 % 64 = 7) : runF C d m_Law_readSum (43, [l0, some (.ref a1), l2, l3, some (.int x4)], [], σ) = bk C d m_Law_readSum 46 [l0, some (.ref a1), l2, l3, some (.int x4)] [] (C m_Reader_needSign [.ref a1, .int x4] σ) := by
  refine (r_aloadn 1 (show decode (zb m_Law_readSum) 43 = .ok (.aload_n 1, 1) from by decide +kernel) rfl).trans ?_
  refine (r_iload 4 (show decode (zb m_Law_readSum) 44 = .ok (.iload 4, 2) from by decide +kernel) rfl).trans ?_
  exact r_virt (args := [.int x4]) (rest := []) (show decode (zb m_Law_readSum) 46 = .ok (.invokevirtual 49, 3) from by decide +kernel) rfl rfl rfl h1
theorem b_Law_readSum_49 {C : CF} {d : Nat} {σ : HP} {a0 : Nat} {a1 : Nat} {x2 : Int32} {l3 : Option Value} {l4 : Option Value} (h1 : a0 % 64 = 4) : runF C d m_Law_readSum (49, [some (.ref a0), some (.ref a1), some (.int x2), l3, l4], [], σ) = bk C d m_Law_readSum 52 [some (.ref a0), some (.ref a1), some (.int x2), l3, l4] [] (C m_Law_readProduct [.ref a0, .ref a1, .int x2] σ) := by
  refine (r_aloadn 0 (show decode (zb m_Law_readSum) 49 = .ok (.aload_n 0, 1) from by decide +kernel) rfl).trans ?_
  refine (r_aloadn 1 (show decode (zb m_Law_readSum) 50 = .ok (.aload_n 1, 1) from by decide +kernel) rfl).trans ?_
  refine (r_iloadn 2 (show decode (zb m_Law_readSum) 51 = .ok (.iload_n 2, 1) from by decide +kernel) rfl).trans ?_
  exact r_virt (args := [.ref a1, .int x2]) (rest := []) (show decode (zb m_Law_readSum) 52 = .ok (.invokevirtual 35, 3) from by decide +kernel) rfl rfl rfl h1
theorem b_Law_readSum_55 {C : CF} {d : Nat} {σ : HP} {a0 : Nat} {x4 : Int32} {l1 : Option Value} {l2 : Option Value} {l3 : Option Value} (h1 : a0 % 64 = 4) : runF C d m_Law_readSum (55, [some (.ref a0), l1, l2, l3, some (.int x4)], [], σ) = bk C d m_Law_readSum 62 [some (.ref a0), l1, l2, l3, some (.int x4)] [] (C m_Law_putCode [.ref a0, .int ((2000 : Int32) + x4)] σ) := by
  refine (r_aloadn 0 (show decode (zb m_Law_readSum) 55 = .ok (.aload_n 0, 1) from by decide +kernel) rfl).trans ?_
  refine (r_sipush (v := (2000 : Int32)) (show decode (zb m_Law_readSum) 56 = .ok (.sipush (2000), 3) from by decide +kernel) (by decide)).trans ?_
  refine (r_iload 4 (show decode (zb m_Law_readSum) 59 = .ok (.iload 4, 2) from by decide +kernel) rfl).trans ?_
  refine (r_iadd (show decode (zb m_Law_readSum) 61 = .ok (.iadd, 1) from by decide +kernel)).trans ?_
  exact r_virt (args := [.int ((2000 : Int32) + x4)]) (rest := []) (show decode (zb m_Law_readSum) 62 = .ok (.invokevirtual 31, 3) from by decide +kernel) rfl rfl rfl h1
theorem b_Law_readSum_65 {C : CF} {d : Nat} {σ : HP} {x3 : Int32} {l0 : Option Value} {l1 : Option Value} {l2 : Option Value} {l4 : Option Value}  : runF C d m_Law_readSum (65, [l0, l1, l2, some (.int x3), l4], [], σ) = runF C d m_Law_readSum (8, [l0, l1, l2, some (.int (x3 + (1 : Int32))), l4], [], σ) := by
  refine (r_iinc 3 (v := (1 : Int32)) (show decode (zb m_Law_readSum) 65 = .ok (.iinc 3 (1), 3) from by decide +kernel) rfl rfl (by decide)).trans ?_
  exact r_goto 8 (show decode (zb m_Law_readSum) 68 = .ok (.goto (-60), 3) from by decide +kernel) rfl
theorem b_Law_readSum_71 {C : CF} {d : Nat} {σ : HP} {l0 : Option Value} {l1 : Option Value} {l2 : Option Value} {l3 : Option Value} {l4 : Option Value}  : runF C d m_Law_readSum (71, [l0, l1, l2, l3, l4], [], σ) = some (.inl none, σ) := by
  exact r_vret (show decode (zb m_Law_readSum) 71 = .ok (.return_, 1) from by decide +kernel) rfl
theorem e_Law_readProduct {d : Nat} {σ : HP} {a0 : Nat} {a1 : Nat} {x2 : Int32} : callF (d + 1) m_Law_readProduct [.ref a0, .ref a1, .int x2] σ = runF (callF d) d m_Law_readProduct (0, [some (.ref a0), some (.ref a1), some (.int x2), none, none], [], σ) := callF_in rfl rfl
theorem b_Law_readProduct_0 {C : CF} {d : Nat} {σ : HP} {a0 : Nat} {a1 : Nat} {x2 : Int32} {l3 : Option Value} {l4 : Option Value} (h1 : a0 % 64 = 4) : runF C d m_Law_readProduct (0, [some (.ref a0), some (.ref a1), some (.int x2), l3, l4], [], σ) = bk C d m_Law_readProduct 3 [some (.ref a0), some (.ref a1), some (.int x2), l3, l4] [] (C m_Law_readUnit [.ref a0, .ref a1, .int x2] σ) := by
  refine (r_aloadn 0 (show decode (zb m_Law_readProduct) 0 = .ok (.aload_n 0, 1) from by decide +kernel) rfl).trans ?_
  refine (r_aloadn 1 (show decode (zb m_Law_readProduct) 1 = .ok (.aload_n 1, 1) from by decide +kernel) rfl).trans ?_
  refine (r_iloadn 2 (show decode (zb m_Law_readProduct) 2 = .ok (.iload_n 2, 1) from by decide +kernel) rfl).trans ?_
  exact r_virt (args := [.ref a1, .int x2]) (rest := []) (show decode (zb m_Law_readProduct) 3 = .ok (.invokevirtual 52, 3) from by decide +kernel) rfl rfl rfl h1
theorem b_Law_readProduct_6 {C : CF} {d : Nat} {σ : HP} {l0 : Option Value} {l1 : Option Value} {l2 : Option Value} {l3 : Option Value} {l4 : Option Value}  : runF C d m_Law_readProduct (6, [l0, l1, l2, l3, l4], [], σ) = runF C d m_Law_readProduct (8, [l0, l1, l2, some (.int ((0 : Int32))), l4], [], σ) := by
  refine (r_iconst (v := (0 : Int32)) (show decode (zb m_Law_readProduct) 6 = .ok (.iconst (0), 1) from by decide +kernel) (by decide)).trans ?_
  exact r_istoren 3 (show decode (zb m_Law_readProduct) 7 = .ok (.istore_n 3, 1) from by decide +kernel) rfl
theorem b_Law_readProduct_8 {C : CF} {d : Nat} {σ : HP} {x3 : Int32} {l0 : Option Value} {l1 : Option Value} {l2 : Option Value} {l4 : Option Value}  : runF C d m_Law_readProduct (8, [l0, l1, l2, some (.int x3), l4], [], σ) = if (150 : Int32) ≤ x3 then runF C d m_Law_readProduct (78, [l0, l1, l2, some (.int x3), l4], [], σ) else runF C d m_Law_readProduct (15, [l0, l1, l2, some (.int x3), l4], [], σ) := by
  refine (r_iloadn 3 (show decode (zb m_Law_readProduct) 8 = .ok (.iload_n 3, 1) from by decide +kernel) rfl).trans ?_
  refine (r_sipush (v := (150 : Int32)) (show decode (zb m_Law_readProduct) 9 = .ok (.sipush (150), 3) from by decide +kernel) (by decide)).trans ?_
  exact r_icmp_ge 78 (show decode (zb m_Law_readProduct) 12 = .ok (.if_icmp .ge (66), 3) from by decide +kernel) rfl
theorem b_Law_readProduct_15 {C : CF} {d : Nat} {σ : HP} {a1 : Nat} {l0 : Option Value} {l2 : Option Value} {l3 : Option Value} {l4 : Option Value} (h1 : a1 % 64 = 7) : runF C d m_Law_readProduct (15, [l0, some (.ref a1), l2, l3, l4], [], σ) = bk C d m_Law_readProduct 16 [l0, some (.ref a1), l2, l3, l4] [] (C m_Reader_failed [.ref a1] σ) := by
  refine (r_aloadn 1 (show decode (zb m_Law_readProduct) 15 = .ok (.aload_n 1, 1) from by decide +kernel) rfl).trans ?_
  exact r_virt (args := []) (rest := []) (show decode (zb m_Law_readProduct) 16 = .ok (.invokevirtual 39, 3) from by decide +kernel) rfl rfl rfl h1
theorem b_Law_readProduct_19 {C : CF} {d : Nat} {σ : HP} {s0 : Int32} {l0 : Option Value} {l1 : Option Value} {l2 : Option Value} {l3 : Option Value} {l4 : Option Value}  : runF C d m_Law_readProduct (19, [l0, l1, l2, l3, l4], [.int s0], σ) = if ¬ s0 = 0 then runF C d m_Law_readProduct (78, [l0, l1, l2, l3, l4], [], σ) else runF C d m_Law_readProduct (22, [l0, l1, l2, l3, l4], [], σ) := by
  exact r_if_ne 78 (show decode (zb m_Law_readProduct) 19 = .ok (.ifCond .ne (59), 3) from by decide +kernel) rfl
theorem b_Law_readProduct_22 {C : CF} {d : Nat} {σ : HP} {a1 : Nat} {l0 : Option Value} {l2 : Option Value} {l3 : Option Value} {l4 : Option Value} (h1 : a1 % 64 = 7) : runF C d m_Law_readProduct (22, [l0, some (.ref a1), l2, l3, l4], [], σ) = bk C d m_Law_readProduct 23 [l0, some (.ref a1), l2, l3, l4] [] (C m_Reader_peek [.ref a1] σ) := by
  refine (r_aloadn 1 (show decode (zb m_Law_readProduct) 22 = .ok (.aload_n 1, 1) from by decide +kernel) rfl).trans ?_
  exact r_virt (args := []) (rest := []) (show decode (zb m_Law_readProduct) 23 = .ok (.invokevirtual 45, 3) from by decide +kernel) rfl rfl rfl h1
theorem b_Law_readProduct_26 {C : CF} {d : Nat} {σ : HP} {s0 : Int32} {l0 : Option Value} {l1 : Option Value} {l2 : Option Value} {l3 : Option Value} {l4 : Option Value}  : runF C d m_Law_readProduct (26, [l0, l1, l2, l3, l4], [.int s0], σ) = if s0 = (42 : Int32) then runF C d m_Law_readProduct (50, [l0, l1, l2, l3, some (.int s0)], [], σ) else runF C d m_Law_readProduct (35, [l0, l1, l2, l3, some (.int s0)], [], σ) := by
  refine (r_istore 4 (show decode (zb m_Law_readProduct) 26 = .ok (.istore 4, 2) from by decide +kernel) rfl).trans ?_
  refine (r_iload 4 (show decode (zb m_Law_readProduct) 28 = .ok (.iload 4, 2) from by decide +kernel) rfl).trans ?_
  refine (r_bipush (v := (42 : Int32)) (show decode (zb m_Law_readProduct) 30 = .ok (.bipush (42), 2) from by decide +kernel) (by decide)).trans ?_
  exact r_icmp_eq 50 (show decode (zb m_Law_readProduct) 32 = .ok (.if_icmp .eq (18), 3) from by decide +kernel) rfl
theorem b_Law_readProduct_35 {C : CF} {d : Nat} {σ : HP} {x4 : Int32} {l0 : Option Value} {l1 : Option Value} {l2 : Option Value} {l3 : Option Value}  : runF C d m_Law_readProduct (35, [l0, l1, l2, l3, some (.int x4)], [], σ) = if x4 = (47 : Int32) then runF C d m_Law_readProduct (50, [l0, l1, l2, l3, some (.int x4)], [], σ) else runF C d m_Law_readProduct (42, [l0, l1, l2, l3, some (.int x4)], [], σ) := by
  refine (r_iload 4 (show decode (zb m_Law_readProduct) 35 = .ok (.iload 4, 2) from by decide +kernel) rfl).trans ?_
  refine (r_bipush (v := (47 : Int32)) (show decode (zb m_Law_readProduct) 37 = .ok (.bipush (47), 2) from by decide +kernel) (by decide)).trans ?_
  exact r_icmp_eq 50 (show decode (zb m_Law_readProduct) 39 = .ok (.if_icmp .eq (11), 3) from by decide +kernel) rfl
theorem b_Law_readProduct_42 {C : CF} {d : Nat} {σ : HP} {x4 : Int32} {l0 : Option Value} {l1 : Option Value} {l2 : Option Value} {l3 : Option Value}  : runF C d m_Law_readProduct (42, [l0, l1, l2, l3, some (.int x4)], [], σ) = if x4 = (37 : Int32) then runF C d m_Law_readProduct (50, [l0, l1, l2, l3, some (.int x4)], [], σ) else runF C d m_Law_readProduct (49, [l0, l1, l2, l3, some (.int x4)], [], σ) := by
  refine (r_iload 4 (show decode (zb m_Law_readProduct) 42 = .ok (.iload 4, 2) from by decide +kernel) rfl).trans ?_
  refine (r_bipush (v := (37 : Int32)) (show decode (zb m_Law_readProduct) 44 = .ok (.bipush (37), 2) from by decide +kernel) (by decide)).trans ?_
  exact r_icmp_eq 50 (show decode (zb m_Law_readProduct) 46 = .ok (.if_icmp .eq (4), 3) from by decide +kernel) rfl
theorem b_Law_readProduct_49 {C : CF} {d : Nat} {σ : HP} {l0 : Option Value} {l1 : Option Value} {l2 : Option Value} {l3 : Option Value} {l4 : Option Value}  : runF C d m_Law_readProduct (49, [l0, l1, l2, l3, l4], [], σ) = some (.inl none, σ) := by
  exact r_vret (show decode (zb m_Law_readProduct) 49 = .ok (.return_, 1) from by decide +kernel) rfl
theorem b_Law_readProduct_50 {C : CF} {d : Nat} {σ : HP} {a1 : Nat} {x4 : Int32} {l0 : Option Value} {l2 : Option Value} {l3 : Option Value} (h1 : a1 % 64 = 7) : runF C d m_Law_readProduct (50, [l0, some (.ref a1), l2, l3, some (.int x4)], [], σ) = bk C d m_Law_readProduct 53 [l0, some (.ref a1), l2, l3, some (.int x4)] [] (C m_Reader_needSign [.ref a1, .int x4] σ) := by
  refine (r_aloadn 1 (show decode (zb m_Law_readProduct) 50 = .ok (.aload_n 1, 1) from by decide +kernel) rfl).trans ?_
  refine (r_iload 4 (show decode (zb m_Law_readProduct) 51 = .ok (.iload 4, 2) from by decide +kernel) rfl).trans ?_
  exact r_virt (args := [.int x4]) (rest := []) (show decode (zb m_Law_readProduct) 53 = .ok (.invokevirtual 49, 3) from by decide +kernel) rfl rfl rfl h1
theorem b_Law_readProduct_56 {C : CF} {d : Nat} {σ : HP} {a0 : Nat} {a1 : Nat} {x2 : Int32} {l3 : Option Value} {l4 : Option Value} (h1 : a0 % 64 = 4) : runF C d m_Law_readProduct (56, [some (.ref a0), some (.ref a1), some (.int x2), l3, l4], [], σ) = bk C d m_Law_readProduct 59 [some (.ref a0), some (.ref a1), some (.int x2), l3, l4] [] (C m_Law_readUnit [.ref a0, .ref a1, .int x2] σ) := by
  refine (r_aloadn 0 (show decode (zb m_Law_readProduct) 56 = .ok (.aload_n 0, 1) from by decide +kernel) rfl).trans ?_
  refine (r_aloadn 1 (show decode (zb m_Law_readProduct) 57 = .ok (.aload_n 1, 1) from by decide +kernel) rfl).trans ?_
  refine (r_iloadn 2 (show decode (zb m_Law_readProduct) 58 = .ok (.iload_n 2, 1) from by decide +kernel) rfl).trans ?_
  exact r_virt (args := [.ref a1, .int x2]) (rest := []) (show decode (zb m_Law_readProduct) 59 = .ok (.invokevirtual 52, 3) from by decide +kernel) rfl rfl rfl h1
theorem b_Law_readProduct_62 {C : CF} {d : Nat} {σ : HP} {a0 : Nat} {x4 : Int32} {l1 : Option Value} {l2 : Option Value} {l3 : Option Value} (h1 : a0 % 64 = 4) : runF C d m_Law_readProduct (62, [some (.ref a0), l1, l2, l3, some (.int x4)], [], σ) = bk C d m_Law_readProduct 69 [some (.ref a0), l1, l2, l3, some (.int x4)] [] (C m_Law_putCode [.ref a0, .int ((2000 : Int32) + x4)] σ) := by
  refine (r_aloadn 0 (show decode (zb m_Law_readProduct) 62 = .ok (.aload_n 0, 1) from by decide +kernel) rfl).trans ?_
  refine (r_sipush (v := (2000 : Int32)) (show decode (zb m_Law_readProduct) 63 = .ok (.sipush (2000), 3) from by decide +kernel) (by decide)).trans ?_
  refine (r_iload 4 (show decode (zb m_Law_readProduct) 66 = .ok (.iload 4, 2) from by decide +kernel) rfl).trans ?_
  refine (r_iadd (show decode (zb m_Law_readProduct) 68 = .ok (.iadd, 1) from by decide +kernel)).trans ?_
  exact r_virt (args := [.int ((2000 : Int32) + x4)]) (rest := []) (show decode (zb m_Law_readProduct) 69 = .ok (.invokevirtual 31, 3) from by decide +kernel) rfl rfl rfl h1
theorem b_Law_readProduct_72 {C : CF} {d : Nat} {σ : HP} {x3 : Int32} {l0 : Option Value} {l1 : Option Value} {l2 : Option Value} {l4 : Option Value}  : runF C d m_Law_readProduct (72, [l0, l1, l2, some (.int x3), l4], [], σ) = runF C d m_Law_readProduct (8, [l0, l1, l2, some (.int (x3 + (1 : Int32))), l4], [], σ) := by
  refine (r_iinc 3 (v := (1 : Int32)) (show decode (zb m_Law_readProduct) 72 = .ok (.iinc 3 (1), 3) from by decide +kernel) rfl rfl (by decide)).trans ?_
  exact r_goto 8 (show decode (zb m_Law_readProduct) 75 = .ok (.goto (-67), 3) from by decide +kernel) rfl
theorem b_Law_readProduct_78 {C : CF} {d : Nat} {σ : HP} {l0 : Option Value} {l1 : Option Value} {l2 : Option Value} {l3 : Option Value} {l4 : Option Value}  : runF C d m_Law_readProduct (78, [l0, l1, l2, l3, l4], [], σ) = some (.inl none, σ) := by
  exact r_vret (show decode (zb m_Law_readProduct) 78 = .ok (.return_, 1) from by decide +kernel) rfl
theorem e_Law_readUnit {d : Nat} {σ : HP} {a0 : Nat} {a1 : Nat} {x2 : Int32} : callF (d + 1) m_Law_readUnit [.ref a0, .ref a1, .int x2] σ = runF (callF d) d m_Law_readUnit (0, [some (.ref a0), some (.ref a1), some (.int x2), none, none], [], σ) := callF_in rfl rfl
theorem b_Law_readUnit_0 {C : CF} {d : Nat} {σ : HP} {a1 : Nat} {l0 : Option Value} {l2 : Option Value} {l3 : Option Value} {l4 : Option Value} (h1 : a1 % 64 = 7) : runF C d m_Law_readUnit (0, [l0, some (.ref a1), l2, l3, l4], [], σ) = bk C d m_Law_readUnit 1 [l0, some (.ref a1), l2, l3, l4] [] (C m_Reader_peek [.ref a1] σ) := by
  refine (r_aloadn 1 (show decode (zb m_Law_readUnit) 0 = .ok (.aload_n 1, 1) from by decide +kernel) rfl).trans ?_
  exact r_virt (args := []) (rest := []) (show decode (zb m_Law_readUnit) 1 = .ok (.invokevirtual 45, 3) from by decide +kernel) rfl rfl rfl h1
theorem b_Law_readUnit_4 {C : CF} {d : Nat} {σ : HP} {s0 : Int32} {l0 : Option Value} {l1 : Option Value} {l2 : Option Value} {l3 : Option Value} {l4 : Option Value}  : runF C d m_Law_readUnit (4, [l0, l1, l2, l3, l4], [.int s0], σ) = if ¬ s0 = (40 : Int32) then runF C d m_Law_readUnit (20, [l0, l1, l2, some (.int s0), l4], [], σ) else runF C d m_Law_readUnit (11, [l0, l1, l2, some (.int s0), l4], [], σ) := by
  refine (r_istoren 3 (show decode (zb m_Law_readUnit) 4 = .ok (.istore_n 3, 1) from by decide +kernel) rfl).trans ?_
  refine (r_iloadn 3 (show decode (zb m_Law_readUnit) 5 = .ok (.iload_n 3, 1) from by decide +kernel) rfl).trans ?_
  refine (r_bipush (v := (40 : Int32)) (show decode (zb m_Law_readUnit) 6 = .ok (.bipush (40), 2) from by decide +kernel) (by decide)).trans ?_
  exact r_icmp_ne 20 (show decode (zb m_Law_readUnit) 8 = .ok (.if_icmp .ne (12), 3) from by decide +kernel) rfl
theorem b_Law_readUnit_11 {C : CF} {d : Nat} {σ : HP} {a0 : Nat} {a1 : Nat} {x2 : Int32} {l3 : Option Value} {l4 : Option Value} (h1 : a0 % 64 = 4) : runF C d m_Law_readUnit (11, [some (.ref a0), some (.ref a1), some (.int x2), l3, l4], [], σ) = bk C d m_Law_readUnit 14 [some (.ref a0), some (.ref a1), some (.int x2), l3, l4] [] (C m_Law_readBracket [.ref a0, .ref a1, .int x2] σ) := by
  refine (r_aloadn 0 (show decode (zb m_Law_readUnit) 11 = .ok (.aload_n 0, 1) from by decide +kernel) rfl).trans ?_
  refine (r_aloadn 1 (show decode (zb m_Law_readUnit) 12 = .ok (.aload_n 1, 1) from by decide +kernel) rfl).trans ?_
  refine (r_iloadn 2 (show decode (zb m_Law_readUnit) 13 = .ok (.iload_n 2, 1) from by decide +kernel) rfl).trans ?_
  exact r_virt (args := [.ref a1, .int x2]) (rest := []) (show decode (zb m_Law_readUnit) 14 = .ok (.invokevirtual 55, 3) from by decide +kernel) rfl rfl rfl h1
theorem b_Law_readUnit_17 {C : CF} {d : Nat} {σ : HP} {l0 : Option Value} {l1 : Option Value} {l2 : Option Value} {l3 : Option Value} {l4 : Option Value}  : runF C d m_Law_readUnit (17, [l0, l1, l2, l3, l4], [], σ) = runF C d m_Law_readUnit (94, [l0, l1, l2, l3, l4], [], σ) := by
  exact r_goto 94 (show decode (zb m_Law_readUnit) 17 = .ok (.goto (77), 3) from by decide +kernel) rfl
theorem b_Law_readUnit_20 {C : CF} {d : Nat} {σ : HP} {x3 : Int32} {l0 : Option Value} {l1 : Option Value} {l2 : Option Value} {l4 : Option Value}  : runF C d m_Law_readUnit (20, [l0, l1, l2, some (.int x3), l4], [], σ) = bkN C d m_Law_readUnit 21 [l0, l1, l2, some (.int x3), l4] [] (C m_Reader_isDigit [.int x3] σ) := by
  refine (r_iloadn 3 (show decode (zb m_Law_readUnit) 20 = .ok (.iload_n 3, 1) from by decide +kernel) rfl).trans ?_
  exact r_stat (args := [.int x3]) (rest := []) (show decode (zb m_Law_readUnit) 21 = .ok (.invokestatic 58, 3) from by decide +kernel) rfl (by decide) rfl rfl
theorem b_Law_readUnit_24 {C : CF} {d : Nat} {σ : HP} {s0 : Int32} {l0 : Option Value} {l1 : Option Value} {l2 : Option Value} {l3 : Option Value} {l4 : Option Value}  : runF C d m_Law_readUnit (24, [l0, l1, l2, l3, l4], [.int s0], σ) = if s0 = 0 then runF C d m_Law_readUnit (42, [l0, l1, l2, l3, l4], [], σ) else runF C d m_Law_readUnit (27, [l0, l1, l2, l3, l4], [], σ) := by
  exact r_if_eq 42 (show decode (zb m_Law_readUnit) 24 = .ok (.ifCond .eq (18), 3) from by decide +kernel) rfl
theorem b_Law_readUnit_27 {C : CF} {d : Nat} {σ : HP} {a0 : Nat} {a1 : Nat} {l2 : Option Value} {l3 : Option Value} {l4 : Option Value} (h1 : a1 % 64 = 7) : runF C d m_Law_readUnit (27, [some (.ref a0), some (.ref a1), l2, l3, l4], [], σ) = bk C d m_Law_readUnit 33 [some (.ref a0), some (.ref a1), l2, l3, l4] [.ref a0] (C m_Reader_readNumber [.ref a1, .int ((0 : Int32)), .int ((999 : Int32))] σ) := by
  refine (r_aloadn 0 (show decode (zb m_Law_readUnit) 27 = .ok (.aload_n 0, 1) from by decide +kernel) rfl).trans ?_
  refine (r_aloadn 1 (show decode (zb m_Law_readUnit) 28 = .ok (.aload_n 1, 1) from by decide +kernel) rfl).trans ?_
  refine (r_iconst (v := (0 : Int32)) (show decode (zb m_Law_readUnit) 29 = .ok (.iconst (0), 1) from by decide +kernel) (by decide)).trans ?_
  refine (r_sipush (v := (999 : Int32)) (show decode (zb m_Law_readUnit) 30 = .ok (.sipush (999), 3) from by decide +kernel) (by decide)).trans ?_
  exact r_virt (args := [.int ((0 : Int32)), .int ((999 : Int32))]) (rest := [.ref a0]) (show decode (zb m_Law_readUnit) 33 = .ok (.invokevirtual 62, 3) from by decide +kernel) rfl rfl rfl h1
theorem b_Law_readUnit_36 {C : CF} {d : Nat} {σ : HP} {s0 : Int32} {r1 : Nat} {l0 : Option Value} {l1 : Option Value} {l2 : Option Value} {l3 : Option Value} {l4 : Option Value} (h1 : r1 % 64 = 4) : runF C d m_Law_readUnit (36, [l0, l1, l2, l3, l4], [.int s0, .ref r1], σ) = bk C d m_Law_readUnit 36 [l0, l1, l2, l3, l4] [] (C m_Law_putCode [.ref r1, .int s0] σ) := by
  exact r_virt (args := [.int s0]) (rest := []) (show decode (zb m_Law_readUnit) 36 = .ok (.invokevirtual 31, 3) from by decide +kernel) rfl rfl rfl h1
theorem b_Law_readUnit_39 {C : CF} {d : Nat} {σ : HP} {l0 : Option Value} {l1 : Option Value} {l2 : Option Value} {l3 : Option Value} {l4 : Option Value}  : runF C d m_Law_readUnit (39, [l0, l1, l2, l3, l4], [], σ) = runF C d m_Law_readUnit (94, [l0, l1, l2, l3, l4], [], σ) := by
  exact r_goto 94 (show decode (zb m_Law_readUnit) 39 = .ok (.goto (55), 3) from by decide +kernel) rfl
theorem b_Law_readUnit_42 {C : CF} {d : Nat} {σ : HP} {a1 : Nat} {l0 : Option Value} {l2 : Option Value} {l3 : Option Value} {l4 : Option Value} (h1 : a1 % 64 = 7) : runF C d m_Law_readUnit (42, [l0, some (.ref a1), l2, l3, l4], [], σ) = bk C d m_Law_readUnit 45 [l0, some (.ref a1), l2, l3, l4] [] (C m_Reader_readWord [.ref a1, .ref 144] σ) := by
  refine (r_aloadn 1 (show decode (zb m_Law_readUnit) 42 = .ok (.aload_n 1, 1) from by decide +kernel) rfl).trans ?_
  refine (r_ldcS (i := 2) (show decode (zb m_Law_readUnit) 43 = .ok (.ldc 66, 2) from by decide +kernel) rfl rfl).trans ?_
  exact r_virt (args := [.ref 144]) (rest := []) (show decode (zb m_Law_readUnit) 45 = .ok (.invokevirtual 68, 3) from by decide +kernel) rfl rfl rfl h1
theorem b_Law_readUnit_48 {C : CF} {d : Nat} {σ : HP} {s0 : Int32} {l0 : Option Value} {l1 : Option Value} {l2 : Option Value} {l3 : Option Value} {l4 : Option Value}  : runF C d m_Law_readUnit (48, [l0, l1, l2, l3, l4], [.int s0], σ) = if s0 < (9 : Int32) then runF C d m_Law_readUnit (78, [l0, l1, l2, l3, some (.int s0)], [], σ) else runF C d m_Law_readUnit (57, [l0, l1, l2, l3, some (.int s0)], [], σ) := by
  refine (r_istore 4 (show decode (zb m_Law_readUnit) 48 = .ok (.istore 4, 2) from by decide +kernel) rfl).trans ?_
  refine (r_iload 4 (show decode (zb m_Law_readUnit) 50 = .ok (.iload 4, 2) from by decide +kernel) rfl).trans ?_
  refine (r_bipush (v := (9 : Int32)) (show decode (zb m_Law_readUnit) 52 = .ok (.bipush (9), 2) from by decide +kernel) (by decide)).trans ?_
  exact r_icmp_lt 78 (show decode (zb m_Law_readUnit) 54 = .ok (.if_icmp .lt (24), 3) from by decide +kernel) rfl
theorem b_Law_readUnit_57 {C : CF} {d : Nat} {σ : HP} {a0 : Nat} {a1 : Nat} {x2 : Int32} {x4 : Int32} {l3 : Option Value}  : runF C d m_Law_readUnit (57, [some (.ref a0), some (.ref a1), some (.int x2), l3, some (.int x4)], [], σ) = if ¬ x4 = (9 : Int32) then runF C d m_Law_readUnit (71, [some (.ref a0), some (.ref a1), some (.int x2), l3, some (.int x4)], [.int x2, .ref a1, .ref a0], σ) else runF C d m_Law_readUnit (67, [some (.ref a0), some (.ref a1), some (.int x2), l3, some (.int x4)], [.int x2, .ref a1, .ref a0], σ) := by
  refine (r_aloadn 0 (show decode (zb m_Law_readUnit) 57 = .ok (.aload_n 0, 1) from by decide +kernel) rfl).trans ?_
  refine (r_aloadn 1 (show decode (zb m_Law_readUnit) 58 = .ok (.aload_n 1, 1) from by decide +kernel) rfl).trans ?_
  refine (r_iloadn 2 (show decode (zb m_Law_readUnit) 59 = .ok (.iload_n 2, 1) from by decide +kernel) rfl).trans ?_
  refine (r_iload 4 (show decode (zb m_Law_readUnit) 60 = .ok (.iload 4, 2) from by decide +kernel) rfl).trans ?_
  refine (r_bipush (v := (9 : Int32)) (show decode (zb m_Law_readUnit) 62 = .ok (.bipush (9), 2) from by decide +kernel) (by decide)).trans ?_
  exact r_icmp_ne 71 (show decode (zb m_Law_readUnit) 64 = .ok (.if_icmp .ne (7), 3) from by decide +kernel) rfl
theorem b_Law_readUnit_67 {C : CF} {d : Nat} {σ : HP} {s0 : Int32} {r1 : Nat} {r2 : Nat} {l0 : Option Value} {l1 : Option Value} {l2 : Option Value} {l3 : Option Value} {l4 : Option Value}  : runF C d m_Law_readUnit (67, [l0, l1, l2, l3, l4], [.int s0, .ref r1, .ref r2], σ) = runF C d m_Law_readUnit (72, [l0, l1, l2, l3, l4], [.int ((1 : Int32)), .int s0, .ref r1, .ref r2], σ) := by
  refine (r_iconst (v := (1 : Int32)) (show decode (zb m_Law_readUnit) 67 = .ok (.iconst (1), 1) from by decide +kernel) (by decide)).trans ?_
  exact r_goto 72 (show decode (zb m_Law_readUnit) 68 = .ok (.goto (4), 3) from by decide +kernel) rfl
theorem b_Law_readUnit_71 {C : CF} {d : Nat} {σ : HP} {s0 : Int32} {r1 : Nat} {r2 : Nat} {l0 : Option Value} {l1 : Option Value} {l2 : Option Value} {l3 : Option Value} {l4 : Option Value}  : runF C d m_Law_readUnit (71, [l0, l1, l2, l3, l4], [.int s0, .ref r1, .ref r2], σ) = runF C d m_Law_readUnit (72, [l0, l1, l2, l3, l4], [.int ((2 : Int32)), .int s0, .ref r1, .ref r2], σ) := by
  exact r_iconst (v := (2 : Int32)) (show decode (zb m_Law_readUnit) 71 = .ok (.iconst (2), 1) from by decide +kernel) (by decide)
theorem b_Law_readUnit_72 {C : CF} {d : Nat} {σ : HP} {s0 : Int32} {s1 : Int32} {r2 : Nat} {r3 : Nat} {l0 : Option Value} {l1 : Option Value} {l2 : Option Value} {l3 : Option Value} {l4 : Option Value} (h1 : r3 % 64 = 4) : runF C d m_Law_readUnit (72, [l0, l1, l2, l3, l4], [.int s0, .int s1, .ref r2, .ref r3], σ) = bk C d m_Law_readUnit 72 [l0, l1, l2, l3, l4] [] (C m_Law_readChoice [.ref r3, .ref r2, .int s1, .int s0] σ) := by
  exact r_virt (args := [.ref r2, .int s1, .int s0]) (rest := []) (show decode (zb m_Law_readUnit) 72 = .ok (.invokevirtual 72, 3) from by decide +kernel) rfl rfl rfl h1
theorem b_Law_readUnit_75 {C : CF} {d : Nat} {σ : HP} {l0 : Option Value} {l1 : Option Value} {l2 : Option Value} {l3 : Option Value} {l4 : Option Value}  : runF C d m_Law_readUnit (75, [l0, l1, l2, l3, l4], [], σ) = runF C d m_Law_readUnit (94, [l0, l1, l2, l3, l4], [], σ) := by
  exact r_goto 94 (show decode (zb m_Law_readUnit) 75 = .ok (.goto (19), 3) from by decide +kernel) rfl
theorem b_Law_readUnit_78 {C : CF} {d : Nat} {σ : HP} {x4 : Int32} {l0 : Option Value} {l1 : Option Value} {l2 : Option Value} {l3 : Option Value}  : runF C d m_Law_readUnit (78, [l0, l1, l2, l3, some (.int x4)], [], σ) = if x4 = (-1 : Int32) then runF C d m_Law_readUnit (94, [l0, l1, l2, l3, some (.int x4)], [], σ) else runF C d m_Law_readUnit (84, [l0, l1, l2, l3, some (.int x4)], [], σ) := by
  refine (r_iload 4 (show decode (zb m_Law_readUnit) 78 = .ok (.iload 4, 2) from by decide +kernel) rfl).trans ?_
  refine (r_iconst (v := (-1 : Int32)) (show decode (zb m_Law_readUnit) 80 = .ok (.iconst (-1), 1) from by decide +kernel) (by decide)).trans ?_
  exact r_icmp_eq 94 (show decode (zb m_Law_readUnit) 81 = .ok (.if_icmp .eq (13), 3) from by decide +kernel) rfl
theorem b_Law_readUnit_84 {C : CF} {d : Nat} {σ : HP} {a0 : Nat} {x4 : Int32} {l1 : Option Value} {l2 : Option Value} {l3 : Option Value} (h1 : a0 % 64 = 4) : runF C d m_Law_readUnit (84, [some (.ref a0), l1, l2, l3, some (.int x4)], [], σ) = bk C d m_Law_readUnit 91 [some (.ref a0), l1, l2, l3, some (.int x4)] [] (C m_Law_putCode [.ref a0, .int ((1000 : Int32) + x4)] σ) := by
  refine (r_aloadn 0 (show decode (zb m_Law_readUnit) 84 = .ok (.aload_n 0, 1) from by decide +kernel) rfl).trans ?_
  refine (r_sipush (v := (1000 : Int32)) (show decode (zb m_Law_readUnit) 85 = .ok (.sipush (1000), 3) from by decide +kernel) (by decide)).trans ?_
  refine (r_iload 4 (show decode (zb m_Law_readUnit) 88 = .ok (.iload 4, 2) from by decide +kernel) rfl).trans ?_
  refine (r_iadd (show decode (zb m_Law_readUnit) 90 = .ok (.iadd, 1) from by decide +kernel)).trans ?_
  exact r_virt (args := [.int ((1000 : Int32) + x4)]) (rest := []) (show decode (zb m_Law_readUnit) 91 = .ok (.invokevirtual 31, 3) from by decide +kernel) rfl rfl rfl h1
theorem b_Law_readUnit_94 {C : CF} {d : Nat} {σ : HP} {l0 : Option Value} {l1 : Option Value} {l2 : Option Value} {l3 : Option Value} {l4 : Option Value}  : runF C d m_Law_readUnit (94, [l0, l1, l2, l3, l4], [], σ) = some (.inl none, σ) := by
  exact r_vret (show decode (zb m_Law_readUnit) 94 = .ok (.return_, 1) from by decide +kernel) rfl
theorem e_Law_readBracket {d : Nat} {σ : HP} {a0 : Nat} {a1 : Nat} {x2 : Int32} : callF (d + 1) m_Law_readBracket [.ref a0, .ref a1, .int x2] σ = runF (callF d) d m_Law_readBracket (0, [some (.ref a0), some (.ref a1), some (.int x2)], [], σ) := callF_in rfl rfl
theorem b_Law_readBracket_0 {C : CF} {d : Nat} {σ : HP} {x2 : Int32} {l0 : Option Value} {l1 : Option Value}  : runF C d m_Law_readBracket (0, [l0, l1, some (.int x2)], [], σ) = if x2 < (6 : Int32) then runF C d m_Law_readBracket (16, [l0, l1, some (.int x2)], [], σ) else runF C d m_Law_readBracket (6, [l0, l1, some (.int x2)], [], σ) := by
  refine (r_iloadn 2 (show decode (zb m_Law_readBracket) 0 = .ok (.iload_n 2, 1) from by decide +kernel) rfl).trans ?_
  refine (r_bipush (v := (6 : Int32)) (show decode (zb m_Law_readBracket) 1 = .ok (.bipush (6), 2) from by decide +kernel) (by decide)).trans ?_
  exact r_icmp_lt 16 (show decode (zb m_Law_readBracket) 3 = .ok (.if_icmp .lt (13), 3) from by decide +kernel) rfl
theorem b_Law_readBracket_6 {C : CF} {d : Nat} {σ : HP} {a1 : Nat} {l0 : Option Value} {l2 : Option Value} (h1 : a1 % 64 = 7) : runF C d m_Law_readBracket (6, [l0, some (.ref a1), l2], [], σ) = bk C d m_Law_readBracket 12 [l0, some (.ref a1), l2] [] (C m_Reader_blame [.ref a1, .int ((3 : Int32)), .int (gI σ a1 2)] σ) := by
  refine (r_aloadn 1 (show decode (zb m_Law_readBracket) 6 = .ok (.aload_n 1, 1) from by decide +kernel) rfl).trans ?_
  refine (r_iconst (v := (3 : Int32)) (show decode (zb m_Law_readBracket) 7 = .ok (.iconst (3), 1) from by decide +kernel) (by decide)).trans ?_
  refine (r_aloadn 1 (show decode (zb m_Law_readBracket) 8 = .ok (.aload_n 1, 1) from by decide +kernel) rfl).trans ?_
  refine (r_getI (show decode (zb m_Law_readBracket) 9 = .ok (.getfield 76, 3) from by decide +kernel) rfl rfl h1).trans ?_
  exact r_virt (args := [.int ((3 : Int32)), .int (gI σ a1 2)]) (rest := []) (show decode (zb m_Law_readBracket) 12 = .ok (.invokevirtual 79, 3) from by decide +kernel) rfl rfl rfl h1
theorem b_Law_readBracket_15 {C : CF} {d : Nat} {σ : HP} {l0 : Option Value} {l1 : Option Value} {l2 : Option Value}  : runF C d m_Law_readBracket (15, [l0, l1, l2], [], σ) = some (.inl none, σ) := by
  exact r_vret (show decode (zb m_Law_readBracket) 15 = .ok (.return_, 1) from by decide +kernel) rfl
theorem b_Law_readBracket_16 {C : CF} {d : Nat} {σ : HP} {a1 : Nat} {l0 : Option Value} {l2 : Option Value} (h1 : a1 % 64 = 7) : runF C d m_Law_readBracket (16, [l0, some (.ref a1), l2], [], σ) = bk C d m_Law_readBracket 19 [l0, some (.ref a1), l2] [] (C m_Reader_needSign [.ref a1, .int ((40 : Int32))] σ) := by
  refine (r_aloadn 1 (show decode (zb m_Law_readBracket) 16 = .ok (.aload_n 1, 1) from by decide +kernel) rfl).trans ?_
  refine (r_bipush (v := (40 : Int32)) (show decode (zb m_Law_readBracket) 17 = .ok (.bipush (40), 2) from by decide +kernel) (by decide)).trans ?_
  exact r_virt (args := [.int ((40 : Int32))]) (rest := []) (show decode (zb m_Law_readBracket) 19 = .ok (.invokevirtual 49, 3) from by decide +kernel) rfl rfl rfl h1
theorem b_Law_readBracket_22 {C : CF} {d : Nat} {σ : HP} {a0 : Nat} {a1 : Nat} {x2 : Int32} (h1 : a0 % 64 = 4) : runF C d m_Law_readBracket (22, [some (.ref a0), some (.ref a1), some (.int x2)], [], σ) = bk C d m_Law_readBracket 27 [some (.ref a0), some (.ref a1), some (.int x2)] [] (C m_Law_readSum [.ref a0, .ref a1, .int (x2 + (1 : Int32))] σ) := by
  refine (r_aloadn 0 (show decode (zb m_Law_readBracket) 22 = .ok (.aload_n 0, 1) from by decide +kernel) rfl).trans ?_
  refine (r_aloadn 1 (show decode (zb m_Law_readBracket) 23 = .ok (.aload_n 1, 1) from by decide +kernel) rfl).trans ?_
  refine (r_iloadn 2 (show decode (zb m_Law_readBracket) 24 = .ok (.iload_n 2, 1) from by decide +kernel) rfl).trans ?_
  refine (r_iconst (v := (1 : Int32)) (show decode (zb m_Law_readBracket) 25 = .ok (.iconst (1), 1) from by decide +kernel) (by decide)).trans ?_
  refine (r_iadd (show decode (zb m_Law_readBracket) 26 = .ok (.iadd, 1) from by decide +kernel)).trans ?_
  exact r_virt (args := [.ref a1, .int (x2 + (1 : Int32))]) (rest := []) (show decode (zb m_Law_readBracket) 27 = .ok (.invokevirtual 83, 3) from by decide +kernel) rfl rfl rfl h1
theorem b_Law_readBracket_30 {C : CF} {d : Nat} {σ : HP} {a1 : Nat} {l0 : Option Value} {l2 : Option Value} (h1 : a1 % 64 = 7) : runF C d m_Law_readBracket (30, [l0, some (.ref a1), l2], [], σ) = bk C d m_Law_readBracket 33 [l0, some (.ref a1), l2] [] (C m_Reader_needSign [.ref a1, .int ((41 : Int32))] σ) := by
  refine (r_aloadn 1 (show decode (zb m_Law_readBracket) 30 = .ok (.aload_n 1, 1) from by decide +kernel) rfl).trans ?_
  refine (r_bipush (v := (41 : Int32)) (show decode (zb m_Law_readBracket) 31 = .ok (.bipush (41), 2) from by decide +kernel) (by decide)).trans ?_
  exact r_virt (args := [.int ((41 : Int32))]) (rest := []) (show decode (zb m_Law_readBracket) 33 = .ok (.invokevirtual 49, 3) from by decide +kernel) rfl rfl rfl h1
theorem b_Law_readBracket_36 {C : CF} {d : Nat} {σ : HP} {l0 : Option Value} {l1 : Option Value} {l2 : Option Value}  : runF C d m_Law_readBracket (36, [l0, l1, l2], [], σ) = some (.inl none, σ) := by
  exact r_vret (show decode (zb m_Law_readBracket) 36 = .ok (.return_, 1) from by decide +kernel) rfl
theorem e_Law_readChoice {d : Nat} {σ : HP} {a0 : Nat} {a1 : Nat} {x2 : Int32} {x3 : Int32} : callF (d + 1) m_Law_readChoice [.ref a0, .ref a1, .int x2, .int x3] σ = runF (callF d) d m_Law_readChoice (0, [some (.ref a0), some (.ref a1), some (.int x2), some (.int x3)], [], σ) := callF_in rfl rfl
theorem b_Law_readChoice_0 {C : CF} {d : Nat} {σ : HP} {x2 : Int32} {l0 : Option Value} {l1 : Option Value} {l3 : Option Value}  : runF C d m_Law_readChoice (0, [l0, l1, some (.int x2), l3], [], σ) = if x2 < (6 : Int32) then runF C d m_Law_readChoice (16, [l0, l1, some (.int x2), l3], [], σ) else runF C d m_Law_readChoice (6, [l0, l1, some (.int x2), l3], [], σ) := by
  refine (r_iloadn 2 (show decode (zb m_Law_readChoice) 0 = .ok (.iload_n 2, 1) from by decide +kernel) rfl).trans ?_
  refine (r_bipush (v := (6 : Int32)) (show decode (zb m_Law_readChoice) 1 = .ok (.bipush (6), 2) from by decide +kernel) (by decide)).trans ?_
  exact r_icmp_lt 16 (show decode (zb m_Law_readChoice) 3 = .ok (.if_icmp .lt (13), 3) from by decide +kernel) rfl
theorem b_Law_readChoice_6 {C : CF} {d : Nat} {σ : HP} {a1 : Nat} {l0 : Option Value} {l2 : Option Value} {l3 : Option Value} (h1 : a1 % 64 = 7) : runF C d m_Law_readChoice (6, [l0, some (.ref a1), l2, l3], [], σ) = bk C d m_Law_readChoice 12 [l0, some (.ref a1), l2, l3] [] (C m_Reader_blame [.ref a1, .int ((3 : Int32)), .int (gI σ a1 5)] σ) := by
  refine (r_aloadn 1 (show decode (zb m_Law_readChoice) 6 = .ok (.aload_n 1, 1) from by decide +kernel) rfl).trans ?_
  refine (r_iconst (v := (3 : Int32)) (show decode (zb m_Law_readChoice) 7 = .ok (.iconst (3), 1) from by decide +kernel) (by decide)).trans ?_
  refine (r_aloadn 1 (show decode (zb m_Law_readChoice) 8 = .ok (.aload_n 1, 1) from by decide +kernel) rfl).trans ?_
  refine (r_getI (show decode (zb m_Law_readChoice) 9 = .ok (.getfield 86, 3) from by decide +kernel) rfl rfl h1).trans ?_
  exact r_virt (args := [.int ((3 : Int32)), .int (gI σ a1 5)]) (rest := []) (show decode (zb m_Law_readChoice) 12 = .ok (.invokevirtual 79, 3) from by decide +kernel) rfl rfl rfl h1
theorem b_Law_readChoice_15 {C : CF} {d : Nat} {σ : HP} {l0 : Option Value} {l1 : Option Value} {l2 : Option Value} {l3 : Option Value}  : runF C d m_Law_readChoice (15, [l0, l1, l2, l3], [], σ) = some (.inl none, σ) := by
  exact r_vret (show decode (zb m_Law_readChoice) 15 = .ok (.return_, 1) from by decide +kernel) rfl
theorem b_Law_readChoice_16 {C : CF} {d : Nat} {σ : HP} {a1 : Nat} {l0 : Option Value} {l2 : Option Value} {l3 : Option Value} (h1 : a1 % 64 = 7) : runF C d m_Law_readChoice (16, [l0, some (.ref a1), l2, l3], [], σ) = bk C d m_Law_readChoice 19 [l0, some (.ref a1), l2, l3] [] (C m_Reader_needSign [.ref a1, .int ((91 : Int32))] σ) := by
  refine (r_aloadn 1 (show decode (zb m_Law_readChoice) 16 = .ok (.aload_n 1, 1) from by decide +kernel) rfl).trans ?_
  refine (r_bipush (v := (91 : Int32)) (show decode (zb m_Law_readChoice) 17 = .ok (.bipush (91), 2) from by decide +kernel) (by decide)).trans ?_
  exact r_virt (args := [.int ((91 : Int32))]) (rest := []) (show decode (zb m_Law_readChoice) 19 = .ok (.invokevirtual 49, 3) from by decide +kernel) rfl rfl rfl h1
theorem b_Law_readChoice_22 {C : CF} {d : Nat} {σ : HP} {a1 : Nat} {l0 : Option Value} {l2 : Option Value} {l3 : Option Value} (h1 : a1 % 64 = 7) : runF C d m_Law_readChoice (22, [l0, some (.ref a1), l2, l3], [], σ) = bk C d m_Law_readChoice 23 [l0, some (.ref a1), l2, l3] [] (C m_Reader_failed [.ref a1] σ) := by
  refine (r_aloadn 1 (show decode (zb m_Law_readChoice) 22 = .ok (.aload_n 1, 1) from by decide +kernel) rfl).trans ?_
  exact r_virt (args := []) (rest := []) (show decode (zb m_Law_readChoice) 23 = .ok (.invokevirtual 39, 3) from by decide +kernel) rfl rfl rfl h1
theorem b_Law_readChoice_26 {C : CF} {d : Nat} {σ : HP} {s0 : Int32} {l0 : Option Value} {l1 : Option Value} {l2 : Option Value} {l3 : Option Value}  : runF C d m_Law_readChoice (26, [l0, l1, l2, l3], [.int s0], σ) = if s0 = 0 then runF C d m_Law_readChoice (30, [l0, l1, l2, l3], [], σ) else runF C d m_Law_readChoice (29, [l0, l1, l2, l3], [], σ) := by
  exact r_if_eq 30 (show decode (zb m_Law_readChoice) 26 = .ok (.ifCond .eq (4), 3) from by decide +kernel) rfl
theorem b_Law_readChoice_29 {C : CF} {d : Nat} {σ : HP} {l0 : Option Value} {l1 : Option Value} {l2 : Option Value} {l3 : Option Value}  : runF C d m_Law_readChoice (29, [l0, l1, l2, l3], [], σ) = some (.inl none, σ) := by
  exact r_vret (show decode (zb m_Law_readChoice) 29 = .ok (.return_, 1) from by decide +kernel) rfl
theorem b_Law_readChoice_30 {C : CF} {d : Nat} {σ : HP} {a0 : Nat} {a1 : Nat} {x2 : Int32} {l3 : Option Value} (h1 : a0 % 64 = 4) : runF C d m_Law_readChoice (30, [some (.ref a0), some (.ref a1), some (.int x2), l3], [], σ) = bk C d m_Law_readChoice 35 [some (.ref a0), some (.ref a1), some (.int x2), l3] [] (C m_Law_readSum [.ref a0, .ref a1, .int (x2 + (1 : Int32))] σ) := by
  refine (r_aloadn 0 (show decode (zb m_Law_readChoice) 30 = .ok (.aload_n 0, 1) from by decide +kernel) rfl).trans ?_
  refine (r_aloadn 1 (show decode (zb m_Law_readChoice) 31 = .ok (.aload_n 1, 1) from by decide +kernel) rfl).trans ?_
  refine (r_iloadn 2 (show decode (zb m_Law_readChoice) 32 = .ok (.iload_n 2, 1) from by decide +kernel) rfl).trans ?_
  refine (r_iconst (v := (1 : Int32)) (show decode (zb m_Law_readChoice) 33 = .ok (.iconst (1), 1) from by decide +kernel) (by decide)).trans ?_
  refine (r_iadd (show decode (zb m_Law_readChoice) 34 = .ok (.iadd, 1) from by decide +kernel)).trans ?_
  exact r_virt (args := [.ref a1, .int (x2 + (1 : Int32))]) (rest := []) (show decode (zb m_Law_readChoice) 35 = .ok (.invokevirtual 83, 3) from by decide +kernel) rfl rfl rfl h1
theorem b_Law_readChoice_38 {C : CF} {d : Nat} {σ : HP} {a1 : Nat} {l0 : Option Value} {l2 : Option Value} {l3 : Option Value} (h1 : a1 % 64 = 7) : runF C d m_Law_readChoice (38, [l0, some (.ref a1), l2, l3], [], σ) = bk C d m_Law_readChoice 41 [l0, some (.ref a1), l2, l3] [] (C m_Reader_needSign [.ref a1, .int ((44 : Int32))] σ) := by
  refine (r_aloadn 1 (show decode (zb m_Law_readChoice) 38 = .ok (.aload_n 1, 1) from by decide +kernel) rfl).trans ?_
  refine (r_bipush (v := (44 : Int32)) (show decode (zb m_Law_readChoice) 39 = .ok (.bipush (44), 2) from by decide +kernel) (by decide)).trans ?_
  exact r_virt (args := [.int ((44 : Int32))]) (rest := []) (show decode (zb m_Law_readChoice) 41 = .ok (.invokevirtual 49, 3) from by decide +kernel) rfl rfl rfl h1
theorem b_Law_readChoice_44 {C : CF} {d : Nat} {σ : HP} {a1 : Nat} {l0 : Option Value} {l2 : Option Value} {l3 : Option Value} (h1 : a1 % 64 = 7) : runF C d m_Law_readChoice (44, [l0, some (.ref a1), l2, l3], [], σ) = bk C d m_Law_readChoice 45 [l0, some (.ref a1), l2, l3] [] (C m_Reader_failed [.ref a1] σ) := by
  refine (r_aloadn 1 (show decode (zb m_Law_readChoice) 44 = .ok (.aload_n 1, 1) from by decide +kernel) rfl).trans ?_
  exact r_virt (args := []) (rest := []) (show decode (zb m_Law_readChoice) 45 = .ok (.invokevirtual 39, 3) from by decide +kernel) rfl rfl rfl h1
theorem b_Law_readChoice_48 {C : CF} {d : Nat} {σ : HP} {s0 : Int32} {l0 : Option Value} {l1 : Option Value} {l2 : Option Value} {l3 : Option Value}  : runF C d m_Law_readChoice (48, [l0, l1, l2, l3], [.int s0], σ) = if s0 = 0 then runF C d m_Law_readChoice (52, [l0, l1, l2, l3], [], σ) else runF C d m_Law_readChoice (51, [l0, l1, l2, l3], [], σ) := by
  exact r_if_eq 52 (show decode (zb m_Law_readChoice) 48 = .ok (.ifCond .eq (4), 3) from by decide +kernel) rfl
theorem b_Law_readChoice_51 {C : CF} {d : Nat} {σ : HP} {l0 : Option Value} {l1 : Option Value} {l2 : Option Value} {l3 : Option Value}  : runF C d m_Law_readChoice (51, [l0, l1, l2, l3], [], σ) = some (.inl none, σ) := by
  exact r_vret (show decode (zb m_Law_readChoice) 51 = .ok (.return_, 1) from by decide +kernel) rfl
theorem b_Law_readChoice_52 {C : CF} {d : Nat} {σ : HP} {a0 : Nat} {a1 : Nat} {x2 : Int32} {l3 : Option Value} (h1 : a0 % 64 = 4) : runF C d m_Law_readChoice (52, [some (.ref a0), some (.ref a1), some (.int x2), l3], [], σ) = bk C d m_Law_readChoice 57 [some (.ref a0), some (.ref a1), some (.int x2), l3] [] (C m_Law_readSum [.ref a0, .ref a1, .int (x2 + (1 : Int32))] σ) := by
  refine (r_aloadn 0 (show decode (zb m_Law_readChoice) 52 = .ok (.aload_n 0, 1) from by decide +kernel) rfl).trans ?_
  refine (r_aloadn 1 (show decode (zb m_Law_readChoice) 53 = .ok (.aload_n 1, 1) from by decide +kernel) rfl).trans ?_
  refine (r_iloadn 2 (show decode (zb m_Law_readChoice) 54 = .ok (.iload_n 2, 1) from by decide +kernel) rfl).trans ?_
  refine (r_iconst (v := (1 : Int32)) (show decode (zb m_Law_readChoice) 55 = .ok (.iconst (1), 1) from by decide +kernel) (by decide)).trans ?_
  refine (r_iadd (show decode (zb m_Law_readChoice) 56 = .ok (.iadd, 1) from by decide +kernel)).trans ?_
  exact r_virt (args := [.ref a1, .int (x2 + (1 : Int32))]) (rest := []) (show decode (zb m_Law_readChoice) 57 = .ok (.invokevirtual 83, 3) from by decide +kernel) rfl rfl rfl h1
theorem b_Law_readChoice_60 {C : CF} {d : Nat} {σ : HP} {a1 : Nat} {l0 : Option Value} {l2 : Option Value} {l3 : Option Value} (h1 : a1 % 64 = 7) : runF C d m_Law_readChoice (60, [l0, some (.ref a1), l2, l3], [], σ) = bk C d m_Law_readChoice 63 [l0, some (.ref a1), l2, l3] [] (C m_Reader_needSign [.ref a1, .int ((93 : Int32))] σ) := by
  refine (r_aloadn 1 (show decode (zb m_Law_readChoice) 60 = .ok (.aload_n 1, 1) from by decide +kernel) rfl).trans ?_
  refine (r_bipush (v := (93 : Int32)) (show decode (zb m_Law_readChoice) 61 = .ok (.bipush (93), 2) from by decide +kernel) (by decide)).trans ?_
  exact r_virt (args := [.int ((93 : Int32))]) (rest := []) (show decode (zb m_Law_readChoice) 63 = .ok (.invokevirtual 49, 3) from by decide +kernel) rfl rfl rfl h1
theorem b_Law_readChoice_66 {C : CF} {d : Nat} {σ : HP} {a0 : Nat} {x3 : Int32} {l1 : Option Value} {l2 : Option Value} (h1 : a0 % 64 = 4) : runF C d m_Law_readChoice (66, [some (.ref a0), l1, l2, some (.int x3)], [], σ) = bk C d m_Law_readChoice 72 [some (.ref a0), l1, l2, some (.int x3)] [] (C m_Law_putCode [.ref a0, .int ((2000 : Int32) + x3)] σ) := by
  refine (r_aloadn 0 (show decode (zb m_Law_readChoice) 66 = .ok (.aload_n 0, 1) from by decide +kernel) rfl).trans ?_
  refine (r_sipush (v := (2000 : Int32)) (show decode (zb m_Law_readChoice) 67 = .ok (.sipush (2000), 3) from by decide +kernel) (by decide)).trans ?_
  refine (r_iloadn 3 (show decode (zb m_Law_readChoice) 70 = .ok (.iload_n 3, 1) from by decide +kernel) rfl).trans ?_
  refine (r_iadd (show decode (zb m_Law_readChoice) 71 = .ok (.iadd, 1) from by decide +kernel)).trans ?_
  exact r_virt (args := [.int ((2000 : Int32) + x3)]) (rest := []) (show decode (zb m_Law_readChoice) 72 = .ok (.invokevirtual 31, 3) from by decide +kernel) rfl rfl rfl h1
theorem b_Law_readChoice_75 {C : CF} {d : Nat} {σ : HP} {l0 : Option Value} {l1 : Option Value} {l2 : Option Value} {l3 : Option Value}  : runF C d m_Law_readChoice (75, [l0, l1, l2, l3], [], σ) = some (.inl none, σ) := by
  exact r_vret (show decode (zb m_Law_readChoice) 75 = .ok (.return_, 1) from by decide +kernel) rfl
theorem e_Law_tellWords {d : Nat} {σ : HP} {a0 : Nat} {x1 : Int32} {x2 : Int32} {x3 : Int32} : callF (d + 1) m_Law_tellWords [.ref a0, .int x1, .int x2, .int x3] σ = runF (callF d) d m_Law_tellWords (0, [some (.ref a0), some (.int x1), some (.int x2), some (.int x3)], [], σ) := callF_in rfl rfl
theorem b_Law_tellWords_0 {C : CF} {d : Nat} {σ : HP} {a0 : Nat} {x1 : Int32} {l2 : Option Value} {l3 : Option Value} (h1 : a0 % 64 = 4) (h2 : (gR σ a0 2).isSome = true) : runF C d m_Law_tellWords (0, [some (.ref a0), some (.int x1), l2, l3], [], σ) = bkN C d m_Law_tellWords 6 [some (.ref a0), some (.int x1), l2, l3] [] (C m_PL_put [.ref (dr (gR σ a0 2)), .int ((0 : Int32)), .int x1] σ) := by
  refine (r_aloadn 0 (show decode (zb m_Law_tellWords) 0 = .ok (.aload_n 0, 1) from by decide +kernel) rfl).trans ?_
  refine (r_getR (show decode (zb m_Law_tellWords) 1 = .ok (.getfield 18, 3) from by decide +kernel) rfl rfl h1 h2).trans ?_
  refine (r_iconst (v := (0 : Int32)) (show decode (zb m_Law_tellWords) 4 = .ok (.iconst (0), 1) from by decide +kernel) (by decide)).trans ?_
  refine (r_iloadn 1 (show decode (zb m_Law_tellWords) 5 = .ok (.iload_n 1, 1) from by decide +kernel) rfl).trans ?_
  exact r_stat (args := [.ref (dr (gR σ a0 2)), .int ((0 : Int32)), .int x1]) (rest := []) (show decode (zb m_Law_tellWords) 6 = .ok (.invokestatic 89, 3) from by decide +kernel) rfl (by decide) rfl rfl
theorem b_Law_tellWords_9 {C : CF} {d : Nat} {σ : HP} {a0 : Nat} {x2 : Int32} {l1 : Option Value} {l3 : Option Value} (h1 : a0 % 64 = 4) (h2 : (gR σ a0 2).isSome = true) : runF C d m_Law_tellWords (9, [some (.ref a0), l1, some (.int x2), l3], [], σ) = bkN C d m_Law_tellWords 15 [some (.ref a0), l1, some (.int x2), l3] [] (C m_PL_put [.ref (dr (gR σ a0 2)), .int ((1 : Int32)), .int x2] σ) := by
  refine (r_aloadn 0 (show decode (zb m_Law_tellWords) 9 = .ok (.aload_n 0, 1) from by decide +kernel) rfl).trans ?_
  refine (r_getR (show decode (zb m_Law_tellWords) 10 = .ok (.getfield 18, 3) from by decide +kernel) rfl rfl h1 h2).trans ?_
  refine (r_iconst (v := (1 : Int32)) (show decode (zb m_Law_tellWords) 13 = .ok (.iconst (1), 1) from by decide +kernel) (by decide)).trans ?_
  refine (r_iloadn 2 (show decode (zb m_Law_tellWords) 14 = .ok (.iload_n 2, 1) from by decide +kernel) rfl).trans ?_
  exact r_stat (args := [.ref (dr (gR σ a0 2)), .int ((1 : Int32)), .int x2]) (rest := []) (show decode (zb m_Law_tellWords) 15 = .ok (.invokestatic 89, 3) from by decide +kernel) rfl (by decide) rfl rfl
theorem b_Law_tellWords_18 {C : CF} {d : Nat} {σ : HP} {a0 : Nat} {x3 : Int32} {l1 : Option Value} {l2 : Option Value} (h1 : a0 % 64 = 4) (h2 : (gR σ a0 2).isSome = true) : runF C d m_Law_tellWords (18, [some (.ref a0), l1, l2, some (.int x3)], [], σ) = bkN C d m_Law_tellWords 24 [some (.ref a0), l1, l2, some (.int x3)] [] (C m_PL_put [.ref (dr (gR σ a0 2)), .int ((5 : Int32)), .int x3] σ) := by
  refine (r_aloadn 0 (show decode (zb m_Law_tellWords) 18 = .ok (.aload_n 0, 1) from by decide +kernel) rfl).trans ?_
  refine (r_getR (show decode (zb m_Law_tellWords) 19 = .ok (.getfield 18, 3) from by decide +kernel) rfl rfl h1 h2).trans ?_
  refine (r_iconst (v := (5 : Int32)) (show decode (zb m_Law_tellWords) 22 = .ok (.iconst (5), 1) from by decide +kernel) (by decide)).trans ?_
  refine (r_iloadn 3 (show decode (zb m_Law_tellWords) 23 = .ok (.iload_n 3, 1) from by decide +kernel) rfl).trans ?_
  exact r_stat (args := [.ref (dr (gR σ a0 2)), .int ((5 : Int32)), .int x3]) (rest := []) (show decode (zb m_Law_tellWords) 24 = .ok (.invokestatic 89, 3) from by decide +kernel) rfl (by decide) rfl rfl
theorem b_Law_tellWords_27 {C : CF} {d : Nat} {σ : HP} {l0 : Option Value} {l1 : Option Value} {l2 : Option Value} {l3 : Option Value}  : runF C d m_Law_tellWords (27, [l0, l1, l2, l3], [], σ) = some (.inl none, σ) := by
  exact r_vret (show decode (zb m_Law_tellWords) 27 = .ok (.return_, 1) from by decide +kernel) rfl
theorem e_Law_tellMan {d : Nat} {σ : HP} {a0 : Nat} {x1 : Int32} {x2 : Int32} {x3 : Int32} : callF (d + 1) m_Law_tellMan [.ref a0, .int x1, .int x2, .int x3] σ = runF (callF d) d m_Law_tellMan (0, [some (.ref a0), some (.int x1), some (.int x2), some (.int x3)], [], σ) := callF_in rfl rfl
theorem b_Law_tellMan_0 {C : CF} {d : Nat} {σ : HP} {a0 : Nat} {x1 : Int32} {l2 : Option Value} {l3 : Option Value} (h1 : a0 % 64 = 4) (h2 : (gR σ a0 2).isSome = true) : runF C d m_Law_tellMan (0, [some (.ref a0), some (.int x1), l2, l3], [], σ) = bkN C d m_Law_tellMan 6 [some (.ref a0), some (.int x1), l2, l3] [] (C m_PL_put [.ref (dr (gR σ a0 2)), .int ((2 : Int32)), .int x1] σ) := by
  refine (r_aloadn 0 (show decode (zb m_Law_tellMan) 0 = .ok (.aload_n 0, 1) from by decide +kernel) rfl).trans ?_
  refine (r_getR (show decode (zb m_Law_tellMan) 1 = .ok (.getfield 18, 3) from by decide +kernel) rfl rfl h1 h2).trans ?_
  refine (r_iconst (v := (2 : Int32)) (show decode (zb m_Law_tellMan) 4 = .ok (.iconst (2), 1) from by decide +kernel) (by decide)).trans ?_
  refine (r_iloadn 1 (show decode (zb m_Law_tellMan) 5 = .ok (.iload_n 1, 1) from by decide +kernel) rfl).trans ?_
  exact r_stat (args := [.ref (dr (gR σ a0 2)), .int ((2 : Int32)), .int x1]) (rest := []) (show decode (zb m_Law_tellMan) 6 = .ok (.invokestatic 89, 3) from by decide +kernel) rfl (by decide) rfl rfl
theorem b_Law_tellMan_9 {C : CF} {d : Nat} {σ : HP} {a0 : Nat} {x2 : Int32} {l1 : Option Value} {l3 : Option Value} (h1 : a0 % 64 = 4) (h2 : (gR σ a0 2).isSome = true) : runF C d m_Law_tellMan (9, [some (.ref a0), l1, some (.int x2), l3], [], σ) = bkN C d m_Law_tellMan 15 [some (.ref a0), l1, some (.int x2), l3] [] (C m_PL_put [.ref (dr (gR σ a0 2)), .int ((3 : Int32)), .int x2] σ) := by
  refine (r_aloadn 0 (show decode (zb m_Law_tellMan) 9 = .ok (.aload_n 0, 1) from by decide +kernel) rfl).trans ?_
  refine (r_getR (show decode (zb m_Law_tellMan) 10 = .ok (.getfield 18, 3) from by decide +kernel) rfl rfl h1 h2).trans ?_
  refine (r_iconst (v := (3 : Int32)) (show decode (zb m_Law_tellMan) 13 = .ok (.iconst (3), 1) from by decide +kernel) (by decide)).trans ?_
  refine (r_iloadn 2 (show decode (zb m_Law_tellMan) 14 = .ok (.iload_n 2, 1) from by decide +kernel) rfl).trans ?_
  exact r_stat (args := [.ref (dr (gR σ a0 2)), .int ((3 : Int32)), .int x2]) (rest := []) (show decode (zb m_Law_tellMan) 15 = .ok (.invokestatic 89, 3) from by decide +kernel) rfl (by decide) rfl rfl
theorem b_Law_tellMan_18 {C : CF} {d : Nat} {σ : HP} {a0 : Nat} {x3 : Int32} {l1 : Option Value} {l2 : Option Value} (h1 : a0 % 64 = 4) (h2 : (gR σ a0 2).isSome = true) : runF C d m_Law_tellMan (18, [some (.ref a0), l1, l2, some (.int x3)], [], σ) = bkN C d m_Law_tellMan 24 [some (.ref a0), l1, l2, some (.int x3)] [] (C m_PL_put [.ref (dr (gR σ a0 2)), .int ((4 : Int32)), .int x3] σ) := by
  refine (r_aloadn 0 (show decode (zb m_Law_tellMan) 18 = .ok (.aload_n 0, 1) from by decide +kernel) rfl).trans ?_
  refine (r_getR (show decode (zb m_Law_tellMan) 19 = .ok (.getfield 18, 3) from by decide +kernel) rfl rfl h1 h2).trans ?_
  refine (r_iconst (v := (4 : Int32)) (show decode (zb m_Law_tellMan) 22 = .ok (.iconst (4), 1) from by decide +kernel) (by decide)).trans ?_
  refine (r_iloadn 3 (show decode (zb m_Law_tellMan) 23 = .ok (.iload_n 3, 1) from by decide +kernel) rfl).trans ?_
  exact r_stat (args := [.ref (dr (gR σ a0 2)), .int ((4 : Int32)), .int x3]) (rest := []) (show decode (zb m_Law_tellMan) 24 = .ok (.invokestatic 89, 3) from by decide +kernel) rfl (by decide) rfl rfl
theorem b_Law_tellMan_27 {C : CF} {d : Nat} {σ : HP} {l0 : Option Value} {l1 : Option Value} {l2 : Option Value} {l3 : Option Value}  : runF C d m_Law_tellMan (27, [l0, l1, l2, l3], [], σ) = some (.inl none, σ) := by
  exact r_vret (show decode (zb m_Law_tellMan) 27 = .ok (.return_, 1) from by decide +kernel) rfl
theorem e_Law_tellWhere {d : Nat} {σ : HP} {a0 : Nat} {x1 : Int32} {x2 : Int32} {x3 : Int32} : callF (d + 1) m_Law_tellWhere [.ref a0, .int x1, .int x2, .int x3] σ = runF (callF d) d m_Law_tellWhere (0, [some (.ref a0), some (.int x1), some (.int x2), some (.int x3)], [], σ) := callF_in rfl rfl
theorem b_Law_tellWhere_0 {C : CF} {d : Nat} {σ : HP} {a0 : Nat} {x1 : Int32} {l2 : Option Value} {l3 : Option Value} (h1 : a0 % 64 = 4) (h2 : (gR σ a0 2).isSome = true) : runF C d m_Law_tellWhere (0, [some (.ref a0), some (.int x1), l2, l3], [], σ) = bkN C d m_Law_tellWhere 7 [some (.ref a0), some (.int x1), l2, l3] [] (C m_PL_put [.ref (dr (gR σ a0 2)), .int ((6 : Int32)), .int x1] σ) := by
  refine (r_aloadn 0 (show decode (zb m_Law_tellWhere) 0 = .ok (.aload_n 0, 1) from by decide +kernel) rfl).trans ?_
  refine (r_getR (show decode (zb m_Law_tellWhere) 1 = .ok (.getfield 18, 3) from by decide +kernel) rfl rfl h1 h2).trans ?_
  refine (r_bipush (v := (6 : Int32)) (show decode (zb m_Law_tellWhere) 4 = .ok (.bipush (6), 2) from by decide +kernel) (by decide)).trans ?_
  refine (r_iloadn 1 (show decode (zb m_Law_tellWhere) 6 = .ok (.iload_n 1, 1) from by decide +kernel) rfl).trans ?_
  exact r_stat (args := [.ref (dr (gR σ a0 2)), .int ((6 : Int32)), .int x1]) (rest := []) (show decode (zb m_Law_tellWhere) 7 = .ok (.invokestatic 89, 3) from by decide +kernel) rfl (by decide) rfl rfl
theorem b_Law_tellWhere_10 {C : CF} {d : Nat} {σ : HP} {a0 : Nat} {x2 : Int32} {l1 : Option Value} {l3 : Option Value} (h1 : a0 % 64 = 4) (h2 : (gR σ a0 2).isSome = true) : runF C d m_Law_tellWhere (10, [some (.ref a0), l1, some (.int x2), l3], [], σ) = bkN C d m_Law_tellWhere 17 [some (.ref a0), l1, some (.int x2), l3] [] (C m_PL_put [.ref (dr (gR σ a0 2)), .int ((7 : Int32)), .int x2] σ) := by
  refine (r_aloadn 0 (show decode (zb m_Law_tellWhere) 10 = .ok (.aload_n 0, 1) from by decide +kernel) rfl).trans ?_
  refine (r_getR (show decode (zb m_Law_tellWhere) 11 = .ok (.getfield 18, 3) from by decide +kernel) rfl rfl h1 h2).trans ?_
  refine (r_bipush (v := (7 : Int32)) (show decode (zb m_Law_tellWhere) 14 = .ok (.bipush (7), 2) from by decide +kernel) (by decide)).trans ?_
  refine (r_iloadn 2 (show decode (zb m_Law_tellWhere) 16 = .ok (.iload_n 2, 1) from by decide +kernel) rfl).trans ?_
  exact r_stat (args := [.ref (dr (gR σ a0 2)), .int ((7 : Int32)), .int x2]) (rest := []) (show decode (zb m_Law_tellWhere) 17 = .ok (.invokestatic 89, 3) from by decide +kernel) rfl (by decide) rfl rfl
theorem b_Law_tellWhere_20 {C : CF} {d : Nat} {σ : HP} {a0 : Nat} {x3 : Int32} {l1 : Option Value} {l2 : Option Value} (h1 : a0 % 64 = 4) (h2 : (gR σ a0 2).isSome = true) : runF C d m_Law_tellWhere (20, [some (.ref a0), l1, l2, some (.int x3)], [], σ) = bkN C d m_Law_tellWhere 27 [some (.ref a0), l1, l2, some (.int x3)] [] (C m_PL_put [.ref (dr (gR σ a0 2)), .int ((8 : Int32)), .int x3] σ) := by
  refine (r_aloadn 0 (show decode (zb m_Law_tellWhere) 20 = .ok (.aload_n 0, 1) from by decide +kernel) rfl).trans ?_
  refine (r_getR (show decode (zb m_Law_tellWhere) 21 = .ok (.getfield 18, 3) from by decide +kernel) rfl rfl h1 h2).trans ?_
  refine (r_bipush (v := (8 : Int32)) (show decode (zb m_Law_tellWhere) 24 = .ok (.bipush (8), 2) from by decide +kernel) (by decide)).trans ?_
  refine (r_iloadn 3 (show decode (zb m_Law_tellWhere) 26 = .ok (.iload_n 3, 1) from by decide +kernel) rfl).trans ?_
  exact r_stat (args := [.ref (dr (gR σ a0 2)), .int ((8 : Int32)), .int x3]) (rest := []) (show decode (zb m_Law_tellWhere) 27 = .ok (.invokestatic 89, 3) from by decide +kernel) rfl (by decide) rfl rfl
theorem b_Law_tellWhere_30 {C : CF} {d : Nat} {σ : HP} {l0 : Option Value} {l1 : Option Value} {l2 : Option Value} {l3 : Option Value}  : runF C d m_Law_tellWhere (30, [l0, l1, l2, l3], [], σ) = some (.inl none, σ) := by
  exact r_vret (show decode (zb m_Law_tellWhere) 30 = .ok (.return_, 1) from by decide +kernel) rfl
theorem e_Law_swellByFacts {d : Nat} {σ : HP} {a0 : Nat} : callF (d + 1) m_Law_swellByFacts [.ref a0] σ = runF (callF d) d m_Law_swellByFacts (0, [some (.ref a0), none, none, none], [], σ) := callF_in rfl rfl
theorem b_Law_swellByFacts_0 {C : CF} {d : Nat} {σ : HP} {l0 : Option Value} {l1 : Option Value} {l2 : Option Value} {l3 : Option Value}  : runF C d m_Law_swellByFacts (0, [l0, l1, l2, l3], [], σ) = runF C d m_Law_swellByFacts (4, [l0, some (.int ((0 : Int32))), some (.int ((0 : Int32))), l3], [], σ) := by
  refine (r_iconst (v := (0 : Int32)) (show decode (zb m_Law_swellByFacts) 0 = .ok (.iconst (0), 1) from by decide +kernel) (by decide)).trans ?_
  refine (r_istoren 1 (show decode (zb m_Law_swellByFacts) 1 = .ok (.istore_n 1, 1) from by decide +kernel) rfl).trans ?_
  refine (r_iconst (v := (0 : Int32)) (show decode (zb m_Law_swellByFacts) 2 = .ok (.iconst (0), 1) from by decide +kernel) (by decide)).trans ?_
  exact r_istoren 2 (show decode (zb m_Law_swellByFacts) 3 = .ok (.istore_n 2, 1) from by decide +kernel) rfl
theorem b_Law_swellByFacts_4 {C : CF} {d : Nat} {σ : HP} {x2 : Int32} {a0 : Nat} {l1 : Option Value} {l3 : Option Value} (h1 : a0 % 64 = 4) : runF C d m_Law_swellByFacts (4, [some (.ref a0), l1, some (.int x2), l3], [], σ) = if (gI σ a0 3) ≤ x2 then runF C d m_Law_swellByFacts (128, [some (.ref a0), l1, some (.int x2), l3], [], σ) else runF C d m_Law_swellByFacts (12, [some (.ref a0), l1, some (.int x2), l3], [], σ) := by
  refine (r_iloadn 2 (show decode (zb m_Law_swellByFacts) 4 = .ok (.iload_n 2, 1) from by decide +kernel) rfl).trans ?_
  refine (r_aloadn 0 (show decode (zb m_Law_swellByFacts) 5 = .ok (.aload_n 0, 1) from by decide +kernel) rfl).trans ?_
  refine (r_getI (show decode (zb m_Law_swellByFacts) 6 = .ok (.getfield 21, 3) from by decide +kernel) rfl rfl h1).trans ?_
  exact r_icmp_ge 128 (show decode (zb m_Law_swellByFacts) 9 = .ok (.if_icmp .ge (119), 3) from by decide +kernel) rfl
theorem b_Law_swellByFacts_12 {C : CF} {d : Nat} {σ : HP} {x2 : Int32} {a0 : Nat} {l1 : Option Value} {l3 : Option Value} (h1 : a0 % 64 = 4) (h2 : (gR σ a0 0).isSome = true) (h3 : ¬ aty ((dr (gR σ a0 0)) % 64) = 0) : runF C d m_Law_swellByFacts (12, [some (.ref a0), l1, some (.int x2), l3], [], σ) = if (Int32.ofNat (alen ((dr (gR σ a0 0)) % 64))) ≤ x2 then runF C d m_Law_swellByFacts (128, [some (.ref a0), l1, some (.int x2), l3], [], σ) else runF C d m_Law_swellByFacts (21, [some (.ref a0), l1, some (.int x2), l3], [], σ) := by
  refine (r_iloadn 2 (show decode (zb m_Law_swellByFacts) 12 = .ok (.iload_n 2, 1) from by decide +kernel) rfl).trans ?_
  refine (r_aloadn 0 (show decode (zb m_Law_swellByFacts) 13 = .ok (.aload_n 0, 1) from by decide +kernel) rfl).trans ?_
  refine (r_getR (show decode (zb m_Law_swellByFacts) 14 = .ok (.getfield 9, 3) from by decide +kernel) rfl rfl h1 h2).trans ?_
  refine (r_alen (show decode (zb m_Law_swellByFacts) 17 = .ok (.arraylength, 1) from by decide +kernel) h3).trans ?_
  exact r_icmp_ge 128 (show decode (zb m_Law_swellByFacts) 18 = .ok (.if_icmp .ge (110), 3) from by decide +kernel) rfl
theorem b_Law_swellByFacts_21 {C : CF} {d : Nat} {σ : HP} {a0 : Nat} {x2 : Int32} {l1 : Option Value} {l3 : Option Value} (h1 : a0 % 64 = 4) (h2 : (gR σ a0 0).isSome = true) (h3 : aty ((dr (gR σ a0 0)) % 64) = 1) (h4 : inR x2 (alen ((dr (gR σ a0 0)) % 64)) = true) : runF C d m_Law_swellByFacts (21, [some (.ref a0), l1, some (.int x2), l3], [], σ) = if (1000 : Int32) ≤ (gI σ (dr (gR σ a0 0)) (Int32.toNatClampNeg x2)) then runF C d m_Law_swellByFacts (50, [some (.ref a0), l1, some (.int x2), some (.int (gI σ (dr (gR σ a0 0)) (Int32.toNatClampNeg x2)))], [], σ) else runF C d m_Law_swellByFacts (35, [some (.ref a0), l1, some (.int x2), some (.int (gI σ (dr (gR σ a0 0)) (Int32.toNatClampNeg x2)))], [], σ) := by
  refine (r_aloadn 0 (show decode (zb m_Law_swellByFacts) 21 = .ok (.aload_n 0, 1) from by decide +kernel) rfl).trans ?_
  refine (r_getR (show decode (zb m_Law_swellByFacts) 22 = .ok (.getfield 9, 3) from by decide +kernel) rfl rfl h1 h2).trans ?_
  refine (r_iloadn 2 (show decode (zb m_Law_swellByFacts) 25 = .ok (.iload_n 2, 1) from by decide +kernel) rfl).trans ?_
  refine (r_iald (show decode (zb m_Law_swellByFacts) 26 = .ok (.iaload, 1) from by decide +kernel) h3 h4).trans ?_
  refine (r_istoren 3 (show decode (zb m_Law_swellByFacts) 27 = .ok (.istore_n 3, 1) from by decide +kernel) rfl).trans ?_
  refine (r_iloadn 3 (show decode (zb m_Law_swellByFacts) 28 = .ok (.iload_n 3, 1) from by decide +kernel) rfl).trans ?_
  refine (r_sipush (v := (1000 : Int32)) (show decode (zb m_Law_swellByFacts) 29 = .ok (.sipush (1000), 3) from by decide +kernel) (by decide)).trans ?_
  exact r_icmp_ge 50 (show decode (zb m_Law_swellByFacts) 32 = .ok (.if_icmp .ge (18), 3) from by decide +kernel) rfl
theorem b_Law_swellByFacts_35 {C : CF} {d : Nat} {σ : HP} {a0 : Nat} {x1 : Int32} {x3 : Int32} {l2 : Option Value} (h1 : a0 % 64 = 4) (h2 : (gR σ a0 1).isSome = true) : runF C d m_Law_swellByFacts (35, [some (.ref a0), some (.int x1), l2, some (.int x3)], [], σ) = bkN C d m_Law_swellByFacts 41 [some (.ref a0), some (.int x1), l2, some (.int x3)] [] (C m_PL_put [.ref (dr (gR σ a0 1)), .int x1, .int x3] σ) := by
  refine (r_aloadn 0 (show decode (zb m_Law_swellByFacts) 35 = .ok (.aload_n 0, 1) from by decide +kernel) rfl).trans ?_
  refine (r_getR (show decode (zb m_Law_swellByFacts) 36 = .ok (.getfield 15, 3) from by decide +kernel) rfl rfl h1 h2).trans ?_
  refine (r_iloadn 1 (show decode (zb m_Law_swellByFacts) 39 = .ok (.iload_n 1, 1) from by decide +kernel) rfl).trans ?_
  refine (r_iloadn 3 (show decode (zb m_Law_swellByFacts) 40 = .ok (.iload_n 3, 1) from by decide +kernel) rfl).trans ?_
  exact r_stat (args := [.ref (dr (gR σ a0 1)), .int x1, .int x3]) (rest := []) (show decode (zb m_Law_swellByFacts) 41 = .ok (.invokestatic 89, 3) from by decide +kernel) rfl (by decide) rfl rfl
theorem b_Law_swellByFacts_44 {C : CF} {d : Nat} {σ : HP} {x1 : Int32} {l0 : Option Value} {l2 : Option Value} {l3 : Option Value}  : runF C d m_Law_swellByFacts (44, [l0, some (.int x1), l2, l3], [], σ) = runF C d m_Law_swellByFacts (122, [l0, some (.int (x1 + (1 : Int32))), l2, l3], [], σ) := by
  refine (r_iinc 1 (v := (1 : Int32)) (show decode (zb m_Law_swellByFacts) 44 = .ok (.iinc 1 (1), 3) from by decide +kernel) rfl rfl (by decide)).trans ?_
  exact r_goto 122 (show decode (zb m_Law_swellByFacts) 47 = .ok (.goto (75), 3) from by decide +kernel) rfl
theorem b_Law_swellByFacts_50 {C : CF} {d : Nat} {σ : HP} {x3 : Int32} {l0 : Option Value} {l1 : Option Value} {l2 : Option Value}  : runF C d m_Law_swellByFacts (50, [l0, l1, l2, some (.int x3)], [], σ) = if (2000 : Int32) ≤ x3 then runF C d m_Law_swellByFacts (83, [l0, l1, l2, some (.int x3)], [], σ) else runF C d m_Law_swellByFacts (57, [l0, l1, l2, some (.int x3)], [], σ) := by
  refine (r_iloadn 3 (show decode (zb m_Law_swellByFacts) 50 = .ok (.iload_n 3, 1) from by decide +kernel) rfl).trans ?_
  refine (r_sipush (v := (2000 : Int32)) (show decode (zb m_Law_swellByFacts) 51 = .ok (.sipush (2000), 3) from by decide +kernel) (by decide)).trans ?_
  exact r_icmp_ge 83 (show decode (zb m_Law_swellByFacts) 54 = .ok (.if_icmp .ge (29), 3) from by decide +kernel) rfl
theorem b_Law_swellByFacts_57 {C : CF} {d : Nat} {σ : HP} {a0 : Nat} {x1 : Int32} {x3 : Int32} {l2 : Option Value} (h1 : a0 % 64 = 4) (h2 : (gR σ a0 1).isSome = true) (h3 : (gR σ a0 2).isSome = true) : runF C d m_Law_swellByFacts (57, [some (.ref a0), some (.int x1), l2, some (.int x3)], [], σ) = bkN C d m_Law_swellByFacts 71 [some (.ref a0), some (.int x1), l2, some (.int x3)] [.int x1, .ref (dr (gR σ a0 1))] (C m_PL_at [.ref (dr (gR σ a0 2)), .int (x3 - (1000 : Int32))] σ) := by
  refine (r_aloadn 0 (show decode (zb m_Law_swellByFacts) 57 = .ok (.aload_n 0, 1) from by decide +kernel) rfl).trans ?_
  refine (r_getR (show decode (zb m_Law_swellByFacts) 58 = .ok (.getfield 15, 3) from by decide +kernel) rfl rfl h1 h2).trans ?_
  refine (r_iloadn 1 (show decode (zb m_Law_swellByFacts) 61 = .ok (.iload_n 1, 1) from by decide +kernel) rfl).trans ?_
  refine (r_aloadn 0 (show decode (zb m_Law_swellByFacts) 62 = .ok (.aload_n 0, 1) from by decide +kernel) rfl).trans ?_
  refine (r_getR (show decode (zb m_Law_swellByFacts) 63 = .ok (.getfield 18, 3) from by decide +kernel) rfl rfl h1 h3).trans ?_
  refine (r_iloadn 3 (show decode (zb m_Law_swellByFacts) 66 = .ok (.iload_n 3, 1) from by decide +kernel) rfl).trans ?_
  refine (r_sipush (v := (1000 : Int32)) (show decode (zb m_Law_swellByFacts) 67 = .ok (.sipush (1000), 3) from by decide +kernel) (by decide)).trans ?_
  refine (r_isub (show decode (zb m_Law_swellByFacts) 70 = .ok (.isub, 1) from by decide +kernel)).trans ?_
  exact r_stat (args := [.ref (dr (gR σ a0 2)), .int (x3 - (1000 : Int32))]) (rest := [.int x1, .ref (dr (gR σ a0 1))]) (show decode (zb m_Law_swellByFacts) 71 = .ok (.invokestatic 93, 3) from by decide +kernel) rfl (by decide) rfl rfl
theorem b_Law_swellByFacts_74 {C : CF} {d : Nat} {σ : HP} {s0 : Int32} {s1 : Int32} {r2 : Nat} {l0 : Option Value} {l1 : Option Value} {l2 : Option Value} {l3 : Option Value}  : runF C d m_Law_swellByFacts (74, [l0, l1, l2, l3], [.int s0, .int s1, .ref r2], σ) = bkN C d m_Law_swellByFacts 74 [l0, l1, l2, l3] [] (C m_PL_put [.ref r2, .int s1, .int s0] σ) := by
  exact r_stat (args := [.ref r2, .int s1, .int s0]) (rest := []) (show decode (zb m_Law_swellByFacts) 74 = .ok (.invokestatic 89, 3) from by decide +kernel) rfl (by decide) rfl rfl
theorem b_Law_swellByFacts_77 {C : CF} {d : Nat} {σ : HP} {x1 : Int32} {l0 : Option Value} {l2 : Option Value} {l3 : Option Value}  : runF C d m_Law_swellByFacts (77, [l0, some (.int x1), l2, l3], [], σ) = runF C d m_Law_swellByFacts (122, [l0, some (.int (x1 + (1 : Int32))), l2, l3], [], σ) := by
  refine (r_iinc 1 (v := (1 : Int32)) (show decode (zb m_Law_swellByFacts) 77 = .ok (.iinc 1 (1), 3) from by decide +kernel) rfl rfl (by decide)).trans ?_
  exact r_goto 122 (show decode (zb m_Law_swellByFacts) 80 = .ok (.goto (42), 3) from by decide +kernel) rfl
theorem b_Law_swellByFacts_83 {C : CF} {d : Nat} {σ : HP} {x1 : Int32} {a0 : Nat} {x3 : Int32} {l2 : Option Value} (h1 : a0 % 64 = 4) (h2 : (gR σ a0 1).isSome = true) : runF C d m_Law_swellByFacts (83, [some (.ref a0), some (.int x1), l2, some (.int x3)], [], σ) = bkN C d m_Law_swellByFacts 105 [some (.ref a0), some (.int (x1 + (-1 : Int32))), l2, some (.int x3)] [.int (x3 - (2000 : Int32)), .int ((x1 + (-1 : Int32)) - (1 : Int32)), .ref (dr (gR σ a0 1))] (C m_PL_at [.ref (dr (gR σ a0 1)), .int ((x1 + (-1 : Int32)) - (1 : Int32))] σ) := by
  refine (r_iinc 1 (v := (-1 : Int32)) (show decode (zb m_Law_swellByFacts) 83 = .ok (.iinc 1 (-1), 3) from by decide +kernel) rfl rfl (by decide)).trans ?_
  refine (r_aloadn 0 (show decode (zb m_Law_swellByFacts) 86 = .ok (.aload_n 0, 1) from by decide +kernel) rfl).trans ?_
  refine (r_getR (show decode (zb m_Law_swellByFacts) 87 = .ok (.getfield 15, 3) from by decide +kernel) rfl rfl h1 h2).trans ?_
  refine (r_iloadn 1 (show decode (zb m_Law_swellByFacts) 90 = .ok (.iload_n 1, 1) from by decide +kernel) rfl).trans ?_
  refine (r_iconst (v := (1 : Int32)) (show decode (zb m_Law_swellByFacts) 91 = .ok (.iconst (1), 1) from by decide +kernel) (by decide)).trans ?_
  refine (r_isub (show decode (zb m_Law_swellByFacts) 92 = .ok (.isub, 1) from by decide +kernel)).trans ?_
  refine (r_iloadn 3 (show decode (zb m_Law_swellByFacts) 93 = .ok (.iload_n 3, 1) from by decide +kernel) rfl).trans ?_
  refine (r_sipush (v := (2000 : Int32)) (show decode (zb m_Law_swellByFacts) 94 = .ok (.sipush (2000), 3) from by decide +kernel) (by decide)).trans ?_
  refine (r_isub (show decode (zb m_Law_swellByFacts) 97 = .ok (.isub, 1) from by decide +kernel)).trans ?_
  refine (r_aloadn 0 (show decode (zb m_Law_swellByFacts) 98 = .ok (.aload_n 0, 1) from by decide +kernel) rfl).trans ?_
  refine (r_getR (show decode (zb m_Law_swellByFacts) 99 = .ok (.getfield 15, 3) from by decide +kernel) rfl rfl h1 h2).trans ?_
  refine (r_iloadn 1 (show decode (zb m_Law_swellByFacts) 102 = .ok (.iload_n 1, 1) from by decide +kernel) rfl).trans ?_
  refine (r_iconst (v := (1 : Int32)) (show decode (zb m_Law_swellByFacts) 103 = .ok (.iconst (1), 1) from by decide +kernel) (by decide)).trans ?_
  refine (r_isub (show decode (zb m_Law_swellByFacts) 104 = .ok (.isub, 1) from by decide +kernel)).trans ?_
  exact r_stat (args := [.ref (dr (gR σ a0 1)), .int ((x1 + (-1 : Int32)) - (1 : Int32))]) (rest := [.int (x3 - (2000 : Int32)), .int ((x1 + (-1 : Int32)) - (1 : Int32)), .ref (dr (gR σ a0 1))]) (show decode (zb m_Law_swellByFacts) 105 = .ok (.invokestatic 93, 3) from by decide +kernel) rfl (by decide) rfl rfl
theorem b_Law_swellByFacts_108 {C : CF} {d : Nat} {σ : HP} {s0 : Int32} {s1 : Int32} {s2 : Int32} {r3 : Nat} {a0 : Nat} {x1 : Int32} {l2 : Option Value} {l3 : Option Value} (h1 : a0 % 64 = 4) (h2 : (gR σ a0 1).isSome = true) : runF C d m_Law_swellByFacts (108, [some (.ref a0), some (.int x1), l2, l3], [.int s0, .int s1, .int s2, .ref r3], σ) = bkN C d m_Law_swellByFacts 113 [some (.ref a0), some (.int x1), l2, l3] [.int s0, .int s1, .int s2, .ref r3] (C m_PL_at [.ref (dr (gR σ a0 1)), .int x1] σ) := by
  refine (r_aloadn 0 (show decode (zb m_Law_swellByFacts) 108 = .ok (.aload_n 0, 1) from by decide +kernel) rfl).trans ?_
  refine (r_getR (show decode (zb m_Law_swellByFacts) 109 = .ok (.getfield 15, 3) from by decide +kernel) rfl rfl h1 h2).trans ?_
  refine (r_iloadn 1 (show decode (zb m_Law_swellByFacts) 112 = .ok (.iload_n 1, 1) from by decide +kernel) rfl).trans ?_
  exact r_stat (args := [.ref (dr (gR σ a0 1)), .int x1]) (rest := [.int s0, .int s1, .int s2, .ref r3]) (show decode (zb m_Law_swellByFacts) 113 = .ok (.invokestatic 93, 3) from by decide +kernel) rfl (by decide) rfl rfl
theorem b_Law_swellByFacts_116 {C : CF} {d : Nat} {σ : HP} {s0 : Int32} {s1 : Int32} {s2 : Int32} {s3 : Int32} {r4 : Nat} {l0 : Option Value} {l1 : Option Value} {l2 : Option Value} {l3 : Option Value}  : runF C d m_Law_swellByFacts (116, [l0, l1, l2, l3], [.int s0, .int s1, .int s2, .int s3, .ref r4], σ) = bkN C d m_Law_swellByFacts 116 [l0, l1, l2, l3] [.int s3, .ref r4] (C m_Law_join [.int s2, .int s1, .int s0] σ) := by
  exact r_stat (args := [.int s2, .int s1, .int s0]) (rest := [.int s3, .ref r4]) (show decode (zb m_Law_swellByFacts) 116 = .ok (.invokestatic 97, 3) from by decide +kernel) rfl (by decide) rfl rfl
theorem b_Law_swellByFacts_119 {C : CF} {d : Nat} {σ : HP} {s0 : Int32} {s1 : Int32} {r2 : Nat} {l0 : Option Value} {l1 : Option Value} {l2 : Option Value} {l3 : Option Value}  : runF C d m_Law_swellByFacts (119, [l0, l1, l2, l3], [.int s0, .int s1, .ref r2], σ) = bkN C d m_Law_swellByFacts 119 [l0, l1, l2, l3] [] (C m_PL_put [.ref r2, .int s1, .int s0] σ) := by
  exact r_stat (args := [.ref r2, .int s1, .int s0]) (rest := []) (show decode (zb m_Law_swellByFacts) 119 = .ok (.invokestatic 89, 3) from by decide +kernel) rfl (by decide) rfl rfl
theorem b_Law_swellByFacts_122 {C : CF} {d : Nat} {σ : HP} {x2 : Int32} {l0 : Option Value} {l1 : Option Value} {l3 : Option Value}  : runF C d m_Law_swellByFacts (122, [l0, l1, some (.int x2), l3], [], σ) = runF C d m_Law_swellByFacts (4, [l0, l1, some (.int (x2 + (1 : Int32))), l3], [], σ) := by
  refine (r_iinc 2 (v := (1 : Int32)) (show decode (zb m_Law_swellByFacts) 122 = .ok (.iinc 2 (1), 3) from by decide +kernel) rfl rfl (by decide)).trans ?_
  exact r_goto 4 (show decode (zb m_Law_swellByFacts) 125 = .ok (.goto (-121), 3) from by decide +kernel) rfl
theorem b_Law_swellByFacts_128 {C : CF} {d : Nat} {σ : HP} {a0 : Nat} {l1 : Option Value} {l2 : Option Value} {l3 : Option Value} (h1 : a0 % 64 = 4) (h2 : (gR σ a0 1).isSome = true) : runF C d m_Law_swellByFacts (128, [some (.ref a0), l1, l2, l3], [], σ) = bkN C d m_Law_swellByFacts 136 [some (.ref a0), l1, l2, l3] [.int ((40 : Int32)), .int ((0 : Int32))] (C m_PL_at [.ref (dr (gR σ a0 1)), .int ((0 : Int32))] σ) := by
  refine (r_iconst (v := (0 : Int32)) (show decode (zb m_Law_swellByFacts) 128 = .ok (.iconst (0), 1) from by decide +kernel) (by decide)).trans ?_
  refine (r_bipush (v := (40 : Int32)) (show decode (zb m_Law_swellByFacts) 129 = .ok (.bipush (40), 2) from by decide +kernel) (by decide)).trans ?_
  refine (r_aloadn 0 (show decode (zb m_Law_swellByFacts) 131 = .ok (.aload_n 0, 1) from by decide +kernel) rfl).trans ?_
  refine (r_getR (show decode (zb m_Law_swellByFacts) 132 = .ok (.getfield 15, 3) from by decide +kernel) rfl rfl h1 h2).trans ?_
  refine (r_iconst (v := (0 : Int32)) (show decode (zb m_Law_swellByFacts) 135 = .ok (.iconst (0), 1) from by decide +kernel) (by decide)).trans ?_
  exact r_stat (args := [.ref (dr (gR σ a0 1)), .int ((0 : Int32))]) (rest := [.int ((40 : Int32)), .int ((0 : Int32))]) (show decode (zb m_Law_swellByFacts) 136 = .ok (.invokestatic 93, 3) from by decide +kernel) rfl (by decide) rfl rfl
theorem b_Law_swellByFacts_139 {C : CF} {d : Nat} {σ : HP} {s0 : Int32} {s1 : Int32} {s2 : Int32} {l0 : Option Value} {l1 : Option Value} {l2 : Option Value} {l3 : Option Value}  : runF C d m_Law_swellByFacts (139, [l0, l1, l2, l3], [.int s0, .int s1, .int s2], σ) = some (.inl (some (.int (p_max s2 (p_min s1 s0)))), σ) := by
  refine (r_min (show decode (zb m_Law_swellByFacts) 139 = .ok (.invokestatic 101, 3) from by decide +kernel) rfl rfl).trans ?_
  refine (r_max (show decode (zb m_Law_swellByFacts) 142 = .ok (.invokestatic 106, 3) from by decide +kernel) rfl rfl).trans ?_
  exact r_iret (show decode (zb m_Law_swellByFacts) 145 = .ok (.ireturn, 1) from by decide +kernel) rfl rfl
theorem e_Law_join {d : Nat} {σ : HP} {x0 : Int32} {x1 : Int32} {x2 : Int32} : callF (d + 1) m_Law_join [.int x0, .int x1, .int x2] σ = runF (callF d) d m_Law_join (0, [some (.int x0), some (.int x1), some (.int x2)], [], σ) := callF_in rfl rfl
theorem b_Law_join_0 {C : CF} {d : Nat} {σ : HP} {x0 : Int32} {l1 : Option Value} {l2 : Option Value}  : runF C d m_Law_join (0, [some (.int x0), l1, l2], [], σ) = if x0 = 1 then runF C d m_Law_join (96, [some (.int x0), l1, l2], [], σ) else if x0 = 37 then runF C d m_Law_join (84, [some (.int x0), l1, l2], [], σ) else if x0 = 42 then runF C d m_Law_join (68, [some (.int x0), l1, l2], [], σ) else if x0 = 43 then runF C d m_Law_join (60, [some (.int x0), l1, l2], [], σ) else if x0 = 45 then runF C d m_Law_join (64, [some (.int x0), l1, l2], [], σ) else if x0 = 47 then runF C d m_Law_join (72, [some (.int x0), l1, l2], [], σ) else runF C d m_Law_join (102, [some (.int x0), l1, l2], [], σ) := by
  refine (r_iloadn 0 (show decode (zb m_Law_join) 0 = .ok (.iload_n 0, 1) from by decide +kernel) rfl).trans ?_
  by_cases q0 : x0 = 1
  · rw [if_pos q0]
    exact r_look 96 (show decode (zb m_Law_join) 1 = .ok (.lookupswitch (101) #[((1), (95)), ((37), (83)), ((42), (67)), ((43), (59)), ((45), (63)), ((47), (71))], 59) from by decide +kernel) (lk_any rfl (by rw [q0]; rfl))
  rw [if_neg q0]
  by_cases q1 : x0 = 37
  · rw [if_pos q1]
    exact r_look 84 (show decode (zb m_Law_join) 1 = .ok (.lookupswitch (101) #[((1), (95)), ((37), (83)), ((42), (67)), ((43), (59)), ((45), (63)), ((47), (71))], 59) from by decide +kernel) (lk_any rfl (by rw [q1]; rfl))
  rw [if_neg q1]
  by_cases q2 : x0 = 42
  · rw [if_pos q2]
    exact r_look 68 (show decode (zb m_Law_join) 1 = .ok (.lookupswitch (101) #[((1), (95)), ((37), (83)), ((42), (67)), ((43), (59)), ((45), (63)), ((47), (71))], 59) from by decide +kernel) (lk_any rfl (by rw [q2]; rfl))
  rw [if_neg q2]
  by_cases q3 : x0 = 43
  · rw [if_pos q3]
    exact r_look 60 (show decode (zb m_Law_join) 1 = .ok (.lookupswitch (101) #[((1), (95)), ((37), (83)), ((42), (67)), ((43), (59)), ((45), (63)), ((47), (71))], 59) from by decide +kernel) (lk_any rfl (by rw [q3]; rfl))
  rw [if_neg q3]
  by_cases q4 : x0 = 45
  · rw [if_pos q4]
    exact r_look 64 (show decode (zb m_Law_join) 1 = .ok (.lookupswitch (101) #[((1), (95)), ((37), (83)), ((42), (67)), ((43), (59)), ((45), (63)), ((47), (71))], 59) from by decide +kernel) (lk_any rfl (by rw [q4]; rfl))
  rw [if_neg q4]
  by_cases q5 : x0 = 47
  · rw [if_pos q5]
    exact r_look 72 (show decode (zb m_Law_join) 1 = .ok (.lookupswitch (101) #[((1), (95)), ((37), (83)), ((42), (67)), ((43), (59)), ((45), (63)), ((47), (71))], 59) from by decide +kernel) (lk_any rfl (by rw [q5]; rfl))
  rw [if_neg q5]
  have e0 : (Int32.toInt x0) ≠ 1 := ne_toInt q0
  have e1 : (Int32.toInt x0) ≠ 37 := ne_toInt q1
  have e2 : (Int32.toInt x0) ≠ 42 := ne_toInt q2
  have e3 : (Int32.toInt x0) ≠ 43 := ne_toInt q3
  have e4 : (Int32.toInt x0) ≠ 45 := ne_toInt q4
  have e5 : (Int32.toInt x0) ≠ 47 := ne_toInt q5
  exact r_look 102 (show decode (zb m_Law_join) 1 = .ok (.lookupswitch (101) #[((1), (95)), ((37), (83)), ((42), (67)), ((43), (59)), ((45), (63)), ((47), (71))], 59) from by decide +kernel) (lk_any rfl (by simp [Op.lookupswitch.offset, e0, (Ne.symm e0), e1, (Ne.symm e1), e2, (Ne.symm e2), e3, (Ne.symm e3), e4, (Ne.symm e4), e5, (Ne.symm e5)]))
theorem b_Law_join_60 {C : CF} {d : Nat} {σ : HP} {x1 : Int32} {x2 : Int32} {l0 : Option Value}  : runF C d m_Law_join (60, [l0, some (.int x1), some (.int x2)], [], σ) = some (.inl (some (.int (x1 + x2))), σ) := by
  refine (r_iloadn 1 (show decode (zb m_Law_join) 60 = .ok (.iload_n 1, 1) from by decide +kernel) rfl).trans ?_
  refine (r_iloadn 2 (show decode (zb m_Law_join) 61 = .ok (.iload_n 2, 1) from by decide +kernel) rfl).trans ?_
  refine (r_iadd (show decode (zb m_Law_join) 62 = .ok (.iadd, 1) from by decide +kernel)).trans ?_
  exact r_iret (show decode (zb m_Law_join) 63 = .ok (.ireturn, 1) from by decide +kernel) rfl rfl
theorem b_Law_join_64 {C : CF} {d : Nat} {σ : HP} {x1 : Int32} {x2 : Int32} {l0 : Option Value}  : runF C d m_Law_join (64, [l0, some (.int x1), some (.int x2)], [], σ) = some (.inl (some (.int (x1 - x2))), σ) := by
  refine (r_iloadn 1 (show decode (zb m_Law_join) 64 = .ok (.iload_n 1, 1) from by decide +kernel) rfl).trans ?_
  refine (r_iloadn 2 (show decode (zb m_Law_join) 65 = .ok (.iload_n 2, 1) from by decide +kernel) rfl).trans ?_
  refine (r_isub (show decode (zb m_Law_join) 66 = .ok (.isub, 1) from by decide +kernel)).trans ?_
  exact r_iret (show decode (zb m_Law_join) 67 = .ok (.ireturn, 1) from by decide +kernel) rfl rfl
theorem b_Law_join_68 {C : CF} {d : Nat} {σ : HP} {x1 : Int32} {x2 : Int32} {l0 : Option Value}  : runF C d m_Law_join (68, [l0, some (.int x1), some (.int x2)], [], σ) = some (.inl (some (.int (x1 * x2))), σ) := by
  refine (r_iloadn 1 (show decode (zb m_Law_join) 68 = .ok (.iload_n 1, 1) from by decide +kernel) rfl).trans ?_
  refine (r_iloadn 2 (show decode (zb m_Law_join) 69 = .ok (.iload_n 2, 1) from by decide +kernel) rfl).trans ?_
  refine (r_imul (show decode (zb m_Law_join) 70 = .ok (.imul, 1) from by decide +kernel)).trans ?_
  exact r_iret (show decode (zb m_Law_join) 71 = .ok (.ireturn, 1) from by decide +kernel) rfl rfl
theorem b_Law_join_72 {C : CF} {d : Nat} {σ : HP} {x2 : Int32} {l0 : Option Value} {l1 : Option Value}  : runF C d m_Law_join (72, [l0, l1, some (.int x2)], [], σ) = if ¬ x2 = 0 then runF C d m_Law_join (80, [l0, l1, some (.int x2)], [], σ) else runF C d m_Law_join (76, [l0, l1, some (.int x2)], [], σ) := by
  refine (r_iloadn 2 (show decode (zb m_Law_join) 72 = .ok (.iload_n 2, 1) from by decide +kernel) rfl).trans ?_
  exact r_if_ne 80 (show decode (zb m_Law_join) 73 = .ok (.ifCond .ne (7), 3) from by decide +kernel) rfl
theorem b_Law_join_76 {C : CF} {d : Nat} {σ : HP} {l0 : Option Value} {l1 : Option Value} {l2 : Option Value}  : runF C d m_Law_join (76, [l0, l1, l2], [], σ) = runF C d m_Law_join (83, [l0, l1, l2], [.int ((0 : Int32))], σ) := by
  refine (r_iconst (v := (0 : Int32)) (show decode (zb m_Law_join) 76 = .ok (.iconst (0), 1) from by decide +kernel) (by decide)).trans ?_
  exact r_goto 83 (show decode (zb m_Law_join) 77 = .ok (.goto (6), 3) from by decide +kernel) rfl
theorem b_Law_join_80 {C : CF} {d : Nat} {σ : HP} {x1 : Int32} {x2 : Int32} {l0 : Option Value} (h1 : ¬ x2 = 0) : runF C d m_Law_join (80, [l0, some (.int x1), some (.int x2)], [], σ) = runF C d m_Law_join (83, [l0, some (.int x1), some (.int x2)], [.int (x1 / x2)], σ) := by
  refine (r_iloadn 1 (show decode (zb m_Law_join) 80 = .ok (.iload_n 1, 1) from by decide +kernel) rfl).trans ?_
  refine (r_iloadn 2 (show decode (zb m_Law_join) 81 = .ok (.iload_n 2, 1) from by decide +kernel) rfl).trans ?_
  exact r_idiv (show decode (zb m_Law_join) 82 = .ok (.idiv, 1) from by decide +kernel) h1
theorem b_Law_join_83 {C : CF} {d : Nat} {σ : HP} {s0 : Int32} {l0 : Option Value} {l1 : Option Value} {l2 : Option Value}  : runF C d m_Law_join (83, [l0, l1, l2], [.int s0], σ) = some (.inl (some (.int s0)), σ) := by
  exact r_iret (show decode (zb m_Law_join) 83 = .ok (.ireturn, 1) from by decide +kernel) rfl rfl
theorem b_Law_join_84 {C : CF} {d : Nat} {σ : HP} {x2 : Int32} {l0 : Option Value} {l1 : Option Value}  : runF C d m_Law_join (84, [l0, l1, some (.int x2)], [], σ) = if ¬ x2 = 0 then runF C d m_Law_join (92, [l0, l1, some (.int x2)], [], σ) else runF C d m_Law_join (88, [l0, l1, some (.int x2)], [], σ) := by
  refine (r_iloadn 2 (show decode (zb m_Law_join) 84 = .ok (.iload_n 2, 1) from by decide +kernel) rfl).trans ?_
  exact r_if_ne 92 (show decode (zb m_Law_join) 85 = .ok (.ifCond .ne (7), 3) from by decide +kernel) rfl
theorem b_Law_join_88 {C : CF} {d : Nat} {σ : HP} {l0 : Option Value} {l1 : Option Value} {l2 : Option Value}  : runF C d m_Law_join (88, [l0, l1, l2], [], σ) = runF C d m_Law_join (95, [l0, l1, l2], [.int ((0 : Int32))], σ) := by
  refine (r_iconst (v := (0 : Int32)) (show decode (zb m_Law_join) 88 = .ok (.iconst (0), 1) from by decide +kernel) (by decide)).trans ?_
  exact r_goto 95 (show decode (zb m_Law_join) 89 = .ok (.goto (6), 3) from by decide +kernel) rfl
theorem b_Law_join_92 {C : CF} {d : Nat} {σ : HP} {x1 : Int32} {x2 : Int32} {l0 : Option Value} (h1 : ¬ x2 = 0) : runF C d m_Law_join (92, [l0, some (.int x1), some (.int x2)], [], σ) = runF C d m_Law_join (95, [l0, some (.int x1), some (.int x2)], [.int (p_rem x1 x2)], σ) := by
  refine (r_iloadn 1 (show decode (zb m_Law_join) 92 = .ok (.iload_n 1, 1) from by decide +kernel) rfl).trans ?_
  refine (r_iloadn 2 (show decode (zb m_Law_join) 93 = .ok (.iload_n 2, 1) from by decide +kernel) rfl).trans ?_
  exact r_irem (show decode (zb m_Law_join) 94 = .ok (.irem, 1) from by decide +kernel) h1
theorem b_Law_join_95 {C : CF} {d : Nat} {σ : HP} {s0 : Int32} {l0 : Option Value} {l1 : Option Value} {l2 : Option Value}  : runF C d m_Law_join (95, [l0, l1, l2], [.int s0], σ) = some (.inl (some (.int s0)), σ) := by
  exact r_iret (show decode (zb m_Law_join) 95 = .ok (.ireturn, 1) from by decide +kernel) rfl rfl
theorem b_Law_join_96 {C : CF} {d : Nat} {σ : HP} {x1 : Int32} {x2 : Int32} {l0 : Option Value}  : runF C d m_Law_join (96, [l0, some (.int x1), some (.int x2)], [], σ) = some (.inl (some (.int (p_min x1 x2))), σ) := by
  refine (r_iloadn 1 (show decode (zb m_Law_join) 96 = .ok (.iload_n 1, 1) from by decide +kernel) rfl).trans ?_
  refine (r_iloadn 2 (show decode (zb m_Law_join) 97 = .ok (.iload_n 2, 1) from by decide +kernel) rfl).trans ?_
  refine (r_min (show decode (zb m_Law_join) 98 = .ok (.invokestatic 101, 3) from by decide +kernel) rfl rfl).trans ?_
  exact r_iret (show decode (zb m_Law_join) 101 = .ok (.ireturn, 1) from by decide +kernel) rfl rfl
theorem b_Law_join_102 {C : CF} {d : Nat} {σ : HP} {x1 : Int32} {x2 : Int32} {l0 : Option Value}  : runF C d m_Law_join (102, [l0, some (.int x1), some (.int x2)], [], σ) = some (.inl (some (.int (p_max x1 x2))), σ) := by
  refine (r_iloadn 1 (show decode (zb m_Law_join) 102 = .ok (.iload_n 1, 1) from by decide +kernel) rfl).trans ?_
  refine (r_iloadn 2 (show decode (zb m_Law_join) 103 = .ok (.iload_n 2, 1) from by decide +kernel) rfl).trans ?_
  refine (r_max (show decode (zb m_Law_join) 104 = .ok (.invokestatic 106, 3) from by decide +kernel) rfl rfl).trans ?_
  exact r_iret (show decode (zb m_Law_join) 107 = .ok (.ireturn, 1) from by decide +kernel) rfl rfl
theorem e_Lift_init {d : Nat} {σ : HP} {a0 : Nat} : callF (d + 1) m_Lift_init [.ref a0] σ = runF (callF d) d m_Lift_init (0, [some (.ref a0)], [], σ) := callF_in rfl rfl
theorem b_Lift_init_0 {C : CF} {d : Nat} {σ : HP} {a0 : Nat} (h1 : a0 % 64 = 5) : runF C d m_Lift_init (0, [some (.ref a0)], [], σ) = bkN C d m_Lift_init 9 [some (.ref a0)] [.ref (2 + 64 * hN σ), .ref a0] (C m_House_init [.ref (2 + 64 * hN σ)] (hA σ 2 9)) := by
  refine (r_aloadn 0 (show decode (zb m_Lift_init) 0 = .ok (.aload_n 0, 1) from by decide +kernel) rfl).trans ?_
  refine (r_obj (show decode (zb m_Lift_init) 1 = .ok (.invokespecial 3, 3) from by decide +kernel) rfl (by have := h1; omega) rfl).trans ?_
  refine (r_aloadn 0 (show decode (zb m_Lift_init) 4 = .ok (.aload_n 0, 1) from by decide +kernel) rfl).trans ?_
  refine (r_new (ci := 2) (show decode (zb m_Lift_init) 5 = .ok (.new 9, 3) from by decide +kernel) rfl).trans ?_
  refine (r_dupR (show decode (zb m_Lift_init) 8 = .ok (.dup, 1) from by decide +kernel)).trans ?_
  exact r_spec (args := []) (rest := [.ref (2 + 64 * hN σ), .ref a0]) (show decode (zb m_Lift_init) 9 = .ok (.invokespecial 11, 3) from by decide +kernel) rfl (by decide) rfl rfl (show (2 + 64 * hN σ) % 64 = 2 from by omega)
theorem b_Lift_init_12 {C : CF} {d : Nat} {σ : HP} {r0 : Nat} {r1 : Nat} {a0 : Nat} (h1 : r1 % 64 = 5) : runF C d m_Lift_init (12, [some (.ref a0)], [.ref r0, .ref r1], σ) = bkN C d m_Lift_init 20 [some (.ref a0)] [.ref (4 + 64 * hN σ), .ref a0] (C m_Law_init [.ref (4 + 64 * hN σ)] (hA (wR σ r1 0 (some r0)) 4 4)) := by
  refine (r_putR (show decode (zb m_Lift_init) 12 = .ok (.putfield 12, 3) from by decide +kernel) rfl rfl rfl h1).trans ?_
  refine (r_aloadn 0 (show decode (zb m_Lift_init) 15 = .ok (.aload_n 0, 1) from by decide +kernel) rfl).trans ?_
  refine (r_new (ci := 4) (show decode (zb m_Lift_init) 16 = .ok (.new 18, 3) from by decide +kernel) rfl).trans ?_
  refine (r_dupR (show decode (zb m_Lift_init) 19 = .ok (.dup, 1) from by decide +kernel)).trans ?_
  exact r_spec (args := []) (rest := [.ref (4 + 64 * hN σ), .ref a0]) (show decode (zb m_Lift_init) 20 = .ok (.invokespecial 20, 3) from by decide +kernel) rfl (by decide) rfl rfl (show (4 + 64 * hN σ) % 64 = 4 from by omega)
theorem b_Lift_init_23 {C : CF} {d : Nat} {σ : HP} {r0 : Nat} {r1 : Nat} {a0 : Nat} (h1 : r1 % 64 = 5) : runF C d m_Lift_init (23, [some (.ref a0)], [.ref r0, .ref r1], σ) = bkN C d m_Lift_init 31 [some (.ref a0)] [.ref (1 + 64 * hN σ), .ref a0] (C m_Days_init [.ref (1 + 64 * hN σ)] (hA (wR σ r1 1 (some r0)) 1 8)) := by
  refine (r_putR (show decode (zb m_Lift_init) 23 = .ok (.putfield 21, 3) from by decide +kernel) rfl rfl rfl h1).trans ?_
  refine (r_aloadn 0 (show decode (zb m_Lift_init) 26 = .ok (.aload_n 0, 1) from by decide +kernel) rfl).trans ?_
  refine (r_new (ci := 1) (show decode (zb m_Lift_init) 27 = .ok (.new 25, 3) from by decide +kernel) rfl).trans ?_
  refine (r_dupR (show decode (zb m_Lift_init) 30 = .ok (.dup, 1) from by decide +kernel)).trans ?_
  exact r_spec (args := []) (rest := [.ref (1 + 64 * hN σ), .ref a0]) (show decode (zb m_Lift_init) 31 = .ok (.invokespecial 27, 3) from by decide +kernel) rfl (by decide) rfl rfl (show (1 + 64 * hN σ) % 64 = 1 from by omega)
theorem b_Lift_init_34 {C : CF} {d : Nat} {σ : HP} {r0 : Nat} {r1 : Nat} {l0 : Option Value} (h1 : r1 % 64 = 5) : runF C d m_Lift_init (34, [l0], [.ref r0, .ref r1], σ) = some (.inl none, wR σ r1 2 (some r0)) := by
  refine (r_putR (show decode (zb m_Lift_init) 34 = .ok (.putfield 28, 3) from by decide +kernel) rfl rfl rfl h1).trans ?_
  exact r_vret (show decode (zb m_Lift_init) 37 = .ok (.return_, 1) from by decide +kernel) rfl
theorem e_Lift_heavyOfSet {d : Nat} {σ : HP} {a0 : Nat} {x1 : Int32} : callF (d + 1) m_Lift_heavyOfSet [.ref a0, .int x1] σ = runF (callF d) d m_Lift_heavyOfSet (0, [some (.ref a0), some (.int x1), none, none], [], σ) := callF_in rfl rfl
theorem b_Lift_heavyOfSet_0 {C : CF} {d : Nat} {σ : HP} {l0 : Option Value} {l1 : Option Value} {l2 : Option Value} {l3 : Option Value}  : runF C d m_Lift_heavyOfSet (0, [l0, l1, l2, l3], [], σ) = runF C d m_Lift_heavyOfSet (4, [l0, l1, some (.int ((0 : Int32))), some (.int ((0 : Int32)))], [], σ) := by
  refine (r_iconst (v := (0 : Int32)) (show decode (zb m_Lift_heavyOfSet) 0 = .ok (.iconst (0), 1) from by decide +kernel) (by decide)).trans ?_
  refine (r_istoren 2 (show decode (zb m_Lift_heavyOfSet) 1 = .ok (.istore_n 2, 1) from by decide +kernel) rfl).trans ?_
  refine (r_iconst (v := (0 : Int32)) (show decode (zb m_Lift_heavyOfSet) 2 = .ok (.iconst (0), 1) from by decide +kernel) (by decide)).trans ?_
  exact r_istoren 3 (show decode (zb m_Lift_heavyOfSet) 3 = .ok (.istore_n 3, 1) from by decide +kernel) rfl
theorem b_Lift_heavyOfSet_4 {C : CF} {d : Nat} {σ : HP} {x3 : Int32} {a0 : Nat} {l1 : Option Value} {l2 : Option Value} (h1 : a0 % 64 = 5) (h2 : (gR σ a0 0).isSome = true) (h3 : (dr (gR σ a0 0)) % 64 = 2) : runF C d m_Lift_heavyOfSet (4, [some (.ref a0), l1, l2, some (.int x3)], [], σ) = if (gI σ (dr (gR σ a0 0)) 1) ≤ x3 then runF C d m_Lift_heavyOfSet (37, [some (.ref a0), l1, l2, some (.int x3)], [], σ) else runF C d m_Lift_heavyOfSet (15, [some (.ref a0), l1, l2, some (.int x3)], [], σ) := by
  refine (r_iloadn 3 (show decode (zb m_Lift_heavyOfSet) 4 = .ok (.iload_n 3, 1) from by decide +kernel) rfl).trans ?_
  refine (r_aloadn 0 (show decode (zb m_Lift_heavyOfSet) 5 = .ok (.aload_n 0, 1) from by decide +kernel) rfl).trans ?_
  refine (r_getR (show decode (zb m_Lift_heavyOfSet) 6 = .ok (.getfield 12, 3) from by decide +kernel) rfl rfl h1 h2).trans ?_
  refine (r_getI (show decode (zb m_Lift_heavyOfSet) 9 = .ok (.getfield 72, 3) from by decide +kernel) rfl rfl h3).trans ?_
  exact r_icmp_ge 37 (show decode (zb m_Lift_heavyOfSet) 12 = .ok (.if_icmp .ge (25), 3) from by decide +kernel) rfl
theorem b_Lift_heavyOfSet_15 {C : CF} {d : Nat} {σ : HP} {x1 : Int32} {x3 : Int32} {l0 : Option Value} {l2 : Option Value}  : runF C d m_Lift_heavyOfSet (15, [l0, some (.int x1), l2, some (.int x3)], [], σ) = bkN C d m_Lift_heavyOfSet 17 [l0, some (.int x1), l2, some (.int x3)] [] (C m_PL_isIn [.int x1, .int x3] σ) := by
  refine (r_iloadn 1 (show decode (zb m_Lift_heavyOfSet) 15 = .ok (.iload_n 1, 1) from by decide +kernel) rfl).trans ?_
  refine (r_iloadn 3 (show decode (zb m_Lift_heavyOfSet) 16 = .ok (.iload_n 3, 1) from by decide +kernel) rfl).trans ?_
  exact r_stat (args := [.int x1, .int x3]) (rest := []) (show decode (zb m_Lift_heavyOfSet) 17 = .ok (.invokestatic 47, 3) from by decide +kernel) rfl (by decide) rfl rfl
theorem b_Lift_heavyOfSet_20 {C : CF} {d : Nat} {σ : HP} {s0 : Int32} {l0 : Option Value} {l1 : Option Value} {l2 : Option Value} {l3 : Option Value}  : runF C d m_Lift_heavyOfSet (20, [l0, l1, l2, l3], [.int s0], σ) = if s0 = 0 then runF C d m_Lift_heavyOfSet (31, [l0, l1, l2, l3], [], σ) else runF C d m_Lift_heavyOfSet (23, [l0, l1, l2, l3], [], σ) := by
  exact r_if_eq 31 (show decode (zb m_Lift_heavyOfSet) 20 = .ok (.ifCond .eq (11), 3) from by decide +kernel) rfl
theorem b_Lift_heavyOfSet_23 {C : CF} {d : Nat} {σ : HP} {x2 : Int32} {a0 : Nat} {x3 : Int32} {l1 : Option Value} (h1 : a0 % 64 = 5) : runF C d m_Lift_heavyOfSet (23, [some (.ref a0), l1, some (.int x2), some (.int x3)], [], σ) = bk C d m_Lift_heavyOfSet 26 [some (.ref a0), l1, some (.int x2), some (.int x3)] [.int x2] (C m_Lift_heavyOf [.ref a0, .int x3] σ) := by
  refine (r_iloadn 2 (show decode (zb m_Lift_heavyOfSet) 23 = .ok (.iload_n 2, 1) from by decide +kernel) rfl).trans ?_
  refine (r_aloadn 0 (show decode (zb m_Lift_heavyOfSet) 24 = .ok (.aload_n 0, 1) from by decide +kernel) rfl).trans ?_
  refine (r_iloadn 3 (show decode (zb m_Lift_heavyOfSet) 25 = .ok (.iload_n 3, 1) from by decide +kernel) rfl).trans ?_
  exact r_virt (args := [.int x3]) (rest := [.int x2]) (show decode (zb m_Lift_heavyOfSet) 26 = .ok (.invokevirtual 75, 3) from by decide +kernel) rfl rfl rfl h1
theorem b_Lift_heavyOfSet_29 {C : CF} {d : Nat} {σ : HP} {s0 : Int32} {s1 : Int32} {l0 : Option Value} {l1 : Option Value} {l2 : Option Value} {l3 : Option Value}  : runF C d m_Lift_heavyOfSet (29, [l0, l1, l2, l3], [.int s0, .int s1], σ) = runF C d m_Lift_heavyOfSet (31, [l0, l1, some (.int (s1 + s0)), l3], [], σ) := by
  refine (r_iadd (show decode (zb m_Lift_heavyOfSet) 29 = .ok (.iadd, 1) from by decide +kernel)).trans ?_
  exact r_istoren 2 (show decode (zb m_Lift_heavyOfSet) 30 = .ok (.istore_n 2, 1) from by decide +kernel) rfl
theorem b_Lift_heavyOfSet_31 {C : CF} {d : Nat} {σ : HP} {x3 : Int32} {l0 : Option Value} {l1 : Option Value} {l2 : Option Value}  : runF C d m_Lift_heavyOfSet (31, [l0, l1, l2, some (.int x3)], [], σ) = runF C d m_Lift_heavyOfSet (4, [l0, l1, l2, some (.int (x3 + (1 : Int32)))], [], σ) := by
  refine (r_iinc 3 (v := (1 : Int32)) (show decode (zb m_Lift_heavyOfSet) 31 = .ok (.iinc 3 (1), 3) from by decide +kernel) rfl rfl (by decide)).trans ?_
  exact r_goto 4 (show decode (zb m_Lift_heavyOfSet) 34 = .ok (.goto (-30), 3) from by decide +kernel) rfl
theorem b_Lift_heavyOfSet_37 {C : CF} {d : Nat} {σ : HP} {x2 : Int32} {l0 : Option Value} {l1 : Option Value} {l3 : Option Value}  : runF C d m_Lift_heavyOfSet (37, [l0, l1, some (.int x2), l3], [], σ) = some (.inl (some (.int x2)), σ) := by
  refine (r_iloadn 2 (show decode (zb m_Lift_heavyOfSet) 37 = .ok (.iload_n 2, 1) from by decide +kernel) rfl).trans ?_
  exact r_iret (show decode (zb m_Lift_heavyOfSet) 38 = .ok (.ireturn, 1) from by decide +kernel) rfl rfl
theorem e_Lift_heavyOf {d : Nat} {σ : HP} {a0 : Nat} {x1 : Int32} : callF (d + 1) m_Lift_heavyOf [.ref a0, .int x1] σ = runF (callF d) d m_Lift_heavyOf (0, [some (.ref a0), some (.int x1)], [], σ) := callF_in rfl rfl
theorem b_Lift_heavyOf_0 {C : CF} {d : Nat} {σ : HP} {a0 : Nat} {x1 : Int32} (h1 : a0 % 64 = 5) (h2 : (gR σ a0 0).isSome = true) (h3 : (dr (gR σ a0 0)) % 64 = 2) (h4 : (gR σ (dr (gR σ a0 0)) 5).isSome = true) : runF C d m_Lift_heavyOf (0, [some (.ref a0), some (.int x1)], [], σ) = bkN C d m_Lift_heavyOf 8 [some (.ref a0), some (.int x1)] [] (C m_PL_at [.ref (dr (gR σ (dr (gR σ a0 0)) 5)), .int x1] σ) := by
  refine (r_aloadn 0 (show decode (zb m_Lift_heavyOf) 0 = .ok (.aload_n 0, 1) from by decide +kernel) rfl).trans ?_
  refine (r_getR (show decode (zb m_Lift_heavyOf) 1 = .ok (.getfield 12, 3) from by decide +kernel) rfl rfl h1 h2).trans ?_
  refine (r_getR (show decode (zb m_Lift_heavyOf) 4 = .ok (.getfield 66, 3) from by decide +kernel) rfl rfl h3 h4).trans ?_
  refine (r_iloadn 1 (show decode (zb m_Lift_heavyOf) 7 = .ok (.iload_n 1, 1) from by decide +kernel) rfl).trans ?_
  exact r_stat (args := [.ref (dr (gR σ (dr (gR σ a0 0)) 5)), .int x1]) (rest := []) (show decode (zb m_Lift_heavyOf) 8 = .ok (.invokestatic 62, 3) from by decide +kernel) rfl (by decide) rfl rfl
theorem b_Lift_heavyOf_11 {C : CF} {d : Nat} {σ : HP} {s0 : Int32} {a0 : Nat} {x1 : Int32} (h1 : a0 % 64 = 5) (h2 : (gR σ a0 2).isSome = true) (h3 : (dr (gR σ a0 2)) % 64 = 1) (h4 : (gR σ (dr (gR σ a0 2)) 5).isSome = true) : runF C d m_Lift_heavyOf (11, [some (.ref a0), some (.int x1)], [.int s0], σ) = bkN C d m_Lift_heavyOf 19 [some (.ref a0), some (.int x1)] [.int s0] (C m_PL_at [.ref (dr (gR σ (dr (gR σ a0 2)) 5)), .int x1] σ) := by
  refine (r_aloadn 0 (show decode (zb m_Lift_heavyOf) 11 = .ok (.aload_n 0, 1) from by decide +kernel) rfl).trans ?_
  refine (r_getR (show decode (zb m_Lift_heavyOf) 12 = .ok (.getfield 28, 3) from by decide +kernel) rfl rfl h1 h2).trans ?_
  refine (r_getR (show decode (zb m_Lift_heavyOf) 15 = .ok (.getfield 69, 3) from by decide +kernel) rfl rfl h3 h4).trans ?_
  refine (r_iloadn 1 (show decode (zb m_Lift_heavyOf) 18 = .ok (.iload_n 1, 1) from by decide +kernel) rfl).trans ?_
  exact r_stat (args := [.ref (dr (gR σ (dr (gR σ a0 2)) 5)), .int x1]) (rest := [.int s0]) (show decode (zb m_Lift_heavyOf) 19 = .ok (.invokestatic 62, 3) from by decide +kernel) rfl (by decide) rfl rfl
theorem b_Lift_heavyOf_22 {C : CF} {d : Nat} {σ : HP} {s0 : Int32} {s1 : Int32} {l0 : Option Value} {l1 : Option Value}  : runF C d m_Lift_heavyOf (22, [l0, l1], [.int s0, .int s1], σ) = some (.inl (some (.int (s1 + s0))), σ) := by
  refine (r_iadd (show decode (zb m_Lift_heavyOf) 22 = .ok (.iadd, 1) from by decide +kernel)).trans ?_
  exact r_iret (show decode (zb m_Lift_heavyOf) 23 = .ok (.ireturn, 1) from by decide +kernel) rfl rfl
theorem e_Lift_canEnter {d : Nat} {σ : HP} {a0 : Nat} {x1 : Int32} : callF (d + 1) m_Lift_canEnter [.ref a0, .int x1] σ = runF (callF d) d m_Lift_canEnter (0, [some (.ref a0), some (.int x1)], [], σ) := callF_in rfl rfl
theorem b_Lift_canEnter_0 {C : CF} {d : Nat} {σ : HP} {a0 : Nat} {x1 : Int32} (h1 : a0 % 64 = 5) : runF C d m_Lift_canEnter (0, [some (.ref a0), some (.int x1)], [], σ) = bk C d m_Lift_canEnter 2 [some (.ref a0), some (.int x1)] [] (C m_Lift_isInside [.ref a0, .int x1] σ) := by
  refine (r_aloadn 0 (show decode (zb m_Lift_canEnter) 0 = .ok (.aload_n 0, 1) from by decide +kernel) rfl).trans ?_
  refine (r_iloadn 1 (show decode (zb m_Lift_canEnter) 1 = .ok (.iload_n 1, 1) from by decide +kernel) rfl).trans ?_
  exact r_virt (args := [.int x1]) (rest := []) (show decode (zb m_Lift_canEnter) 2 = .ok (.invokevirtual 51, 3) from by decide +kernel) rfl rfl rfl h1
theorem b_Lift_canEnter_5 {C : CF} {d : Nat} {σ : HP} {s0 : Int32} {l0 : Option Value} {l1 : Option Value}  : runF C d m_Lift_canEnter (5, [l0, l1], [.int s0], σ) = if ¬ s0 = 0 then runF C d m_Lift_canEnter (47, [l0, l1], [], σ) else runF C d m_Lift_canEnter (8, [l0, l1], [], σ) := by
  exact r_if_ne 47 (show decode (zb m_Lift_canEnter) 5 = .ok (.ifCond .ne (42), 3) from by decide +kernel) rfl
theorem b_Lift_canEnter_8 {C : CF} {d : Nat} {σ : HP} {a0 : Nat} {x1 : Int32} (h1 : a0 % 64 = 5) (h2 : (gR σ a0 2).isSome = true) (h3 : (dr (gR σ a0 2)) % 64 = 1) (h4 : (gR σ (dr (gR σ a0 2)) 4).isSome = true) : runF C d m_Lift_canEnter (8, [some (.ref a0), some (.int x1)], [], σ) = bkN C d m_Lift_canEnter 16 [some (.ref a0), some (.int x1)] [] (C m_PL_at [.ref (dr (gR σ (dr (gR σ a0 2)) 4)), .int x1] σ) := by
  refine (r_aloadn 0 (show decode (zb m_Lift_canEnter) 8 = .ok (.aload_n 0, 1) from by decide +kernel) rfl).trans ?_
  refine (r_getR (show decode (zb m_Lift_canEnter) 9 = .ok (.getfield 28, 3) from by decide +kernel) rfl rfl h1 h2).trans ?_
  refine (r_getR (show decode (zb m_Lift_canEnter) 12 = .ok (.getfield 58, 3) from by decide +kernel) rfl rfl h3 h4).trans ?_
  refine (r_iloadn 1 (show decode (zb m_Lift_canEnter) 15 = .ok (.iload_n 1, 1) from by decide +kernel) rfl).trans ?_
  exact r_stat (args := [.ref (dr (gR σ (dr (gR σ a0 2)) 4)), .int x1]) (rest := []) (show decode (zb m_Lift_canEnter) 16 = .ok (.invokestatic 62, 3) from by decide +kernel) rfl (by decide) rfl rfl
theorem b_Lift_canEnter_19 {C : CF} {d : Nat} {σ : HP} {s0 : Int32} {a0 : Nat} {l1 : Option Value} (h1 : a0 % 64 = 5) (h2 : (gR σ a0 2).isSome = true) (h3 : (dr (gR σ a0 2)) % 64 = 1) : runF C d m_Lift_canEnter (19, [some (.ref a0), l1], [.int s0], σ) = if ¬ s0 = (gI σ (dr (gR σ a0 2)) 1) then runF C d m_Lift_canEnter (47, [some (.ref a0), l1], [], σ) else runF C d m_Lift_canEnter (29, [some (.ref a0), l1], [], σ) := by
  refine (r_aloadn 0 (show decode (zb m_Lift_canEnter) 19 = .ok (.aload_n 0, 1) from by decide +kernel) rfl).trans ?_
  refine (r_getR (show decode (zb m_Lift_canEnter) 20 = .ok (.getfield 28, 3) from by decide +kernel) rfl rfl h1 h2).trans ?_
  refine (r_getI (show decode (zb m_Lift_canEnter) 23 = .ok (.getfield 55, 3) from by decide +kernel) rfl rfl h3).trans ?_
  exact r_icmp_ne 47 (show decode (zb m_Lift_canEnter) 26 = .ok (.if_icmp .ne (21), 3) from by decide +kernel) rfl
theorem b_Lift_canEnter_29 {C : CF} {d : Nat} {σ : HP} {a0 : Nat} {l1 : Option Value} (h1 : a0 % 64 = 5) (h2 : (gR σ a0 2).isSome = true) (h3 : (dr (gR σ a0 2)) % 64 = 1) : runF C d m_Lift_canEnter (29, [some (.ref a0), l1], [], σ) = bkN C d m_Lift_canEnter 36 [some (.ref a0), l1] [] (C m_Integer_bitCount [.int (gI σ (dr (gR σ a0 2)) 2)] σ) := by
  refine (r_aloadn 0 (show decode (zb m_Lift_canEnter) 29 = .ok (.aload_n 0, 1) from by decide +kernel) rfl).trans ?_
  refine (r_getR (show decode (zb m_Lift_canEnter) 30 = .ok (.getfield 28, 3) from by decide +kernel) rfl rfl h1 h2).trans ?_
  refine (r_getI (show decode (zb m_Lift_canEnter) 33 = .ok (.getfield 43, 3) from by decide +kernel) rfl rfl h3).trans ?_
  exact r_stat (args := [.int (gI σ (dr (gR σ a0 2)) 2)]) (rest := []) (show decode (zb m_Lift_canEnter) 36 = .ok (.invokestatic 154, 3) from by decide +kernel) rfl (by decide) rfl rfl
theorem b_Lift_canEnter_39 {C : CF} {d : Nat} {σ : HP} {s0 : Int32} {l0 : Option Value} {l1 : Option Value}  : runF C d m_Lift_canEnter (39, [l0, l1], [.int s0], σ) = if (4 : Int32) ≤ s0 then runF C d m_Lift_canEnter (47, [l0, l1], [], σ) else runF C d m_Lift_canEnter (43, [l0, l1], [], σ) := by
  refine (r_iconst (v := (4 : Int32)) (show decode (zb m_Lift_canEnter) 39 = .ok (.iconst (4), 1) from by decide +kernel) (by decide)).trans ?_
  exact r_icmp_ge 47 (show decode (zb m_Lift_canEnter) 40 = .ok (.if_icmp .ge (7), 3) from by decide +kernel) rfl
theorem b_Lift_canEnter_43 {C : CF} {d : Nat} {σ : HP} {l0 : Option Value} {l1 : Option Value}  : runF C d m_Lift_canEnter (43, [l0, l1], [], σ) = runF C d m_Lift_canEnter (48, [l0, l1], [.int ((1 : Int32))], σ) := by
  refine (r_iconst (v := (1 : Int32)) (show decode (zb m_Lift_canEnter) 43 = .ok (.iconst (1), 1) from by decide +kernel) (by decide)).trans ?_
  exact r_goto 48 (show decode (zb m_Lift_canEnter) 44 = .ok (.goto (4), 3) from by decide +kernel) rfl
theorem b_Lift_canEnter_47 {C : CF} {d : Nat} {σ : HP} {l0 : Option Value} {l1 : Option Value}  : runF C d m_Lift_canEnter (47, [l0, l1], [], σ) = runF C d m_Lift_canEnter (48, [l0, l1], [.int ((0 : Int32))], σ) := by
  exact r_iconst (v := (0 : Int32)) (show decode (zb m_Lift_canEnter) 47 = .ok (.iconst (0), 1) from by decide +kernel) (by decide)
theorem b_Lift_canEnter_48 {C : CF} {d : Nat} {σ : HP} {s0 : Int32} {l0 : Option Value} {l1 : Option Value} (h1 : s0 = 0 ∨ s0 = 1) : runF C d m_Lift_canEnter (48, [l0, l1], [.int s0], σ) = some (.inl (some (.int s0)), σ) := by
  exact r_bret (show decode (zb m_Lift_canEnter) 48 = .ok (.ireturn, 1) from by decide +kernel) rfl h1
theorem e_Lift_isInside {d : Nat} {σ : HP} {a0 : Nat} {x1 : Int32} : callF (d + 1) m_Lift_isInside [.ref a0, .int x1] σ = runF (callF d) d m_Lift_isInside (0, [some (.ref a0), some (.int x1)], [], σ) := callF_in rfl rfl
theorem b_Lift_isInside_0 {C : CF} {d : Nat} {σ : HP} {a0 : Nat} {x1 : Int32} (h1 : a0 % 64 = 5) (h2 : (gR σ a0 2).isSome = true) (h3 : (dr (gR σ a0 2)) % 64 = 1) : runF C d m_Lift_isInside (0, [some (.ref a0), some (.int x1)], [], σ) = bkN C d m_Lift_isInside 8 [some (.ref a0), some (.int x1)] [] (C m_PL_isIn [.int (gI σ (dr (gR σ a0 2)) 2), .int x1] σ) := by
  refine (r_aloadn 0 (show decode (zb m_Lift_isInside) 0 = .ok (.aload_n 0, 1) from by decide +kernel) rfl).trans ?_
  refine (r_getR (show decode (zb m_Lift_isInside) 1 = .ok (.getfield 28, 3) from by decide +kernel) rfl rfl h1 h2).trans ?_
  refine (r_getI (show decode (zb m_Lift_isInside) 4 = .ok (.getfield 43, 3) from by decide +kernel) rfl rfl h3).trans ?_
  refine (r_iloadn 1 (show decode (zb m_Lift_isInside) 7 = .ok (.iload_n 1, 1) from by decide +kernel) rfl).trans ?_
  exact r_stat (args := [.int (gI σ (dr (gR σ a0 2)) 2), .int x1]) (rest := []) (show decode (zb m_Lift_isInside) 8 = .ok (.invokestatic 47, 3) from by decide +kernel) rfl (by decide) rfl rfl
theorem b_Lift_isInside_11 {C : CF} {d : Nat} {σ : HP} {s0 : Int32} {l0 : Option Value} {l1 : Option Value} (h1 : s0 = 0 ∨ s0 = 1) : runF C d m_Lift_isInside (11, [l0, l1], [.int s0], σ) = some (.inl (some (.int s0)), σ) := by
  exact r_bret (show decode (zb m_Lift_isInside) 11 = .ok (.ireturn, 1) from by decide +kernel) rfl h1
theorem e_Lift_loadNow {d : Nat} {σ : HP} {a0 : Nat} : callF (d + 1) m_Lift_loadNow [.ref a0] σ = runF (callF d) d m_Lift_loadNow (0, [some (.ref a0)], [], σ) := callF_in rfl rfl
theorem b_Lift_loadNow_0 {C : CF} {d : Nat} {σ : HP} {a0 : Nat} (h1 : a0 % 64 = 5) (h2 : (gR σ a0 2).isSome = true) (h3 : (dr (gR σ a0 2)) % 64 = 1) : runF C d m_Lift_loadNow (0, [some (.ref a0)], [], σ) = bk C d m_Lift_loadNow 8 [some (.ref a0)] [] (C m_Lift_heavyOfSet [.ref a0, .int (gI σ (dr (gR σ a0 2)) 2)] σ) := by
  refine (r_aloadn 0 (show decode (zb m_Lift_loadNow) 0 = .ok (.aload_n 0, 1) from by decide +kernel) rfl).trans ?_
  refine (r_aloadn 0 (show decode (zb m_Lift_loadNow) 1 = .ok (.aload_n 0, 1) from by decide +kernel) rfl).trans ?_
  refine (r_getR (show decode (zb m_Lift_loadNow) 2 = .ok (.getfield 28, 3) from by decide +kernel) rfl rfl h1 h2).trans ?_
  refine (r_getI (show decode (zb m_Lift_loadNow) 5 = .ok (.getfield 43, 3) from by decide +kernel) rfl rfl h3).trans ?_
  exact r_virt (args := [.int (gI σ (dr (gR σ a0 2)) 2)]) (rest := []) (show decode (zb m_Lift_loadNow) 8 = .ok (.invokevirtual 79, 3) from by decide +kernel) rfl rfl rfl h1
theorem b_Lift_loadNow_11 {C : CF} {d : Nat} {σ : HP} {s0 : Int32} {l0 : Option Value}  : runF C d m_Lift_loadNow (11, [l0], [.int s0], σ) = some (.inl (some (.int s0)), σ) := by
  exact r_iret (show decode (zb m_Lift_loadNow) 11 = .ok (.ireturn, 1) from by decide +kernel) rfl rfl
theorem e_Lift_placeOf {d : Nat} {σ : HP} {a0 : Nat} {x1 : Int32} : callF (d + 1) m_Lift_placeOf [.ref a0, .int x1] σ = runF (callF d) d m_Lift_placeOf (0, [some (.ref a0), some (.int x1)], [], σ) := callF_in rfl rfl
theorem b_Lift_placeOf_0 {C : CF} {d : Nat} {σ : HP} {a0 : Nat} {x1 : Int32} (h1 : a0 % 64 = 5) : runF C d m_Lift_placeOf (0, [some (.ref a0), some (.int x1)], [], σ) = bk C d m_Lift_placeOf 2 [some (.ref a0), some (.int x1)] [] (C m_Lift_isInside [.ref a0, .int x1] σ) := by
  refine (r_aloadn 0 (show decode (zb m_Lift_placeOf) 0 = .ok (.aload_n 0, 1) from by decide +kernel) rfl).trans ?_
  refine (r_iloadn 1 (show decode (zb m_Lift_placeOf) 1 = .ok (.iload_n 1, 1) from by decide +kernel) rfl).trans ?_
  exact r_virt (args := [.int x1]) (rest := []) (show decode (zb m_Lift_placeOf) 2 = .ok (.invokevirtual 51, 3) from by decide +kernel) rfl rfl rfl h1
theorem b_Lift_placeOf_5 {C : CF} {d : Nat} {σ : HP} {s0 : Int32} {l0 : Option Value} {l1 : Option Value}  : runF C d m_Lift_placeOf (5, [l0, l1], [.int s0], σ) = if s0 = 0 then runF C d m_Lift_placeOf (18, [l0, l1], [], σ) else runF C d m_Lift_placeOf (8, [l0, l1], [], σ) := by
  exact r_if_eq 18 (show decode (zb m_Lift_placeOf) 5 = .ok (.ifCond .eq (13), 3) from by decide +kernel) rfl
theorem b_Lift_placeOf_8 {C : CF} {d : Nat} {σ : HP} {a0 : Nat} {l1 : Option Value} (h1 : a0 % 64 = 5) (h2 : (gR σ a0 2).isSome = true) (h3 : (dr (gR σ a0 2)) % 64 = 1) : runF C d m_Lift_placeOf (8, [some (.ref a0), l1], [], σ) = runF C d m_Lift_placeOf (29, [some (.ref a0), l1], [.int (gI σ (dr (gR σ a0 2)) 1)], σ) := by
  refine (r_aloadn 0 (show decode (zb m_Lift_placeOf) 8 = .ok (.aload_n 0, 1) from by decide +kernel) rfl).trans ?_
  refine (r_getR (show decode (zb m_Lift_placeOf) 9 = .ok (.getfield 28, 3) from by decide +kernel) rfl rfl h1 h2).trans ?_
  refine (r_getI (show decode (zb m_Lift_placeOf) 12 = .ok (.getfield 55, 3) from by decide +kernel) rfl rfl h3).trans ?_
  exact r_goto 29 (show decode (zb m_Lift_placeOf) 15 = .ok (.goto (14), 3) from by decide +kernel) rfl
theorem b_Lift_placeOf_18 {C : CF} {d : Nat} {σ : HP} {a0 : Nat} {x1 : Int32} (h1 : a0 % 64 = 5) (h2 : (gR σ a0 2).isSome = true) (h3 : (dr (gR σ a0 2)) % 64 = 1) (h4 : (gR σ (dr (gR σ a0 2)) 4).isSome = true) : runF C d m_Lift_placeOf (18, [some (.ref a0), some (.int x1)], [], σ) = bkN C d m_Lift_placeOf 26 [some (.ref a0), some (.int x1)] [] (C m_PL_at [.ref (dr (gR σ (dr (gR σ a0 2)) 4)), .int x1] σ) := by
  refine (r_aloadn 0 (show decode (zb m_Lift_placeOf) 18 = .ok (.aload_n 0, 1) from by decide +kernel) rfl).trans ?_
  refine (r_getR (show decode (zb m_Lift_placeOf) 19 = .ok (.getfield 28, 3) from by decide +kernel) rfl rfl h1 h2).trans ?_
  refine (r_getR (show decode (zb m_Lift_placeOf) 22 = .ok (.getfield 58, 3) from by decide +kernel) rfl rfl h3 h4).trans ?_
  refine (r_iloadn 1 (show decode (zb m_Lift_placeOf) 25 = .ok (.iload_n 1, 1) from by decide +kernel) rfl).trans ?_
  exact r_stat (args := [.ref (dr (gR σ (dr (gR σ a0 2)) 4)), .int x1]) (rest := []) (show decode (zb m_Lift_placeOf) 26 = .ok (.invokestatic 62, 3) from by decide +kernel) rfl (by decide) rfl rfl
theorem b_Lift_placeOf_29 {C : CF} {d : Nat} {σ : HP} {s0 : Int32} {l0 : Option Value} {l1 : Option Value}  : runF C d m_Lift_placeOf (29, [l0, l1], [.int s0], σ) = some (.inl (some (.int s0)), σ) := by
  exact r_iret (show decode (zb m_Lift_placeOf) 29 = .ok (.ireturn, 1) from by decide +kernel) rfl rfl
theorem e_Lift_moveInto {d : Nat} {σ : HP} {a0 : Nat} {a1 : Nat} : callF (d + 1) m_Lift_moveInto [.ref a0, .ref a1] σ = runF (callF d) d m_Lift_moveInto (0, [some (.ref a0), some (.ref a1)], [], σ) := callF_in rfl rfl
theorem b_Lift_moveInto_0 {C : CF} {d : Nat} {σ : HP} {a0 : Nat} {a1 : Nat} (h1 : a0 % 64 = 5) (h2 : (gR (wR σ a0 0 (some a1)) a0 1).isSome = true) (h3 : (dr (gR (wR σ a0 0 (some a1)) a0 1)) % 64 = 4) : runF C d m_Lift_moveInto (0, [some (.ref a0), some (.ref a1)], [], σ) = bk C d m_Lift_moveInto 9 [some (.ref a0), some (.ref a1)] [] (C m_Law_setUsual [.ref (dr (gR (wR σ a0 0 (some a1)) a0 1))] (wR σ a0 0 (some a1))) := by
  refine (r_aloadn 0 (show decode (zb m_Lift_moveInto) 0 = .ok (.aload_n 0, 1) from by decide +kernel) rfl).trans ?_
  refine (r_aloadn 1 (show decode (zb m_Lift_moveInto) 1 = .ok (.aload_n 1, 1) from by decide +kernel) rfl).trans ?_
  refine (r_putR (show decode (zb m_Lift_moveInto) 2 = .ok (.putfield 12, 3) from by decide +kernel) rfl rfl rfl h1).trans ?_
  refine (r_aloadn 0 (show decode (zb m_Lift_moveInto) 5 = .ok (.aload_n 0, 1) from by decide +kernel) rfl).trans ?_
  refine (r_getR (show decode (zb m_Lift_moveInto) 6 = .ok (.getfield 21, 3) from by decide +kernel) rfl rfl h1 h2).trans ?_
  exact r_virt (args := []) (rest := []) (show decode (zb m_Lift_moveInto) 9 = .ok (.invokevirtual 32, 3) from by decide +kernel) rfl rfl rfl h3
theorem b_Lift_moveInto_12 {C : CF} {d : Nat} {σ : HP} {a0 : Nat} {a1 : Nat} (h1 : a0 % 64 = 5) (h2 : (gR σ a0 2).isSome = true) (h3 : (dr (gR σ a0 2)) % 64 = 1) : runF C d m_Lift_moveInto (12, [some (.ref a0), some (.ref a1)], [], σ) = bk C d m_Lift_moveInto 17 [some (.ref a0), some (.ref a1)] [] (C m_Days_beginIn [.ref (dr (gR σ a0 2)), .ref a1] σ) := by
  refine (r_aloadn 0 (show decode (zb m_Lift_moveInto) 12 = .ok (.aload_n 0, 1) from by decide +kernel) rfl).trans ?_
  refine (r_getR (show decode (zb m_Lift_moveInto) 13 = .ok (.getfield 28, 3) from by decide +kernel) rfl rfl h1 h2).trans ?_
  refine (r_aloadn 1 (show decode (zb m_Lift_moveInto) 16 = .ok (.aload_n 1, 1) from by decide +kernel) rfl).trans ?_
  exact r_virt (args := [.ref a1]) (rest := []) (show decode (zb m_Lift_moveInto) 17 = .ok (.invokevirtual 35, 3) from by decide +kernel) rfl rfl rfl h3
theorem b_Lift_moveInto_20 {C : CF} {d : Nat} {σ : HP} {l0 : Option Value} {l1 : Option Value}  : runF C d m_Lift_moveInto (20, [l0, l1], [], σ) = some (.inl none, σ) := by
  exact r_vret (show decode (zb m_Lift_moveInto) 20 = .ok (.return_, 1) from by decide +kernel) rfl
theorem e_Lift_letIn {d : Nat} {σ : HP} {a0 : Nat} {x1 : Int32} : callF (d + 1) m_Lift_letIn [.ref a0, .int x1] σ = runF (callF d) d m_Lift_letIn (0, [some (.ref a0), some (.int x1)], [], σ) := callF_in rfl rfl
theorem b_Lift_letIn_0 {C : CF} {d : Nat} {σ : HP} {a0 : Nat} {x1 : Int32} (h1 : a0 % 64 = 5) : runF C d m_Lift_letIn (0, [some (.ref a0), some (.int x1)], [], σ) = bk C d m_Lift_letIn 2 [some (.ref a0), some (.int x1)] [] (C m_Lift_canEnter [.ref a0, .int x1] σ) := by
  refine (r_aloadn 0 (show decode (zb m_Lift_letIn) 0 = .ok (.aload_n 0, 1) from by decide +kernel) rfl).trans ?_
  refine (r_iloadn 1 (show decode (zb m_Lift_letIn) 1 = .ok (.iload_n 1, 1) from by decide +kernel) rfl).trans ?_
  exact r_virt (args := [.int x1]) (rest := []) (show decode (zb m_Lift_letIn) 2 = .ok (.invokevirtual 159, 3) from by decide +kernel) rfl rfl rfl h1
theorem b_Lift_letIn_5 {C : CF} {d : Nat} {σ : HP} {s0 : Int32} {l0 : Option Value} {l1 : Option Value}  : runF C d m_Lift_letIn (5, [l0, l1], [.int s0], σ) = if ¬ s0 = 0 then runF C d m_Lift_letIn (10, [l0, l1], [], σ) else runF C d m_Lift_letIn (8, [l0, l1], [], σ) := by
  exact r_if_ne 10 (show decode (zb m_Lift_letIn) 5 = .ok (.ifCond .ne (5), 3) from by decide +kernel) rfl
theorem b_Lift_letIn_8 {C : CF} {d : Nat} {σ : HP} {l0 : Option Value} {l1 : Option Value}  : runF C d m_Lift_letIn (8, [l0, l1], [], σ) = some (.inl (some (.int (0 : Int32))), σ) := by
  refine (r_iconst (v := (0 : Int32)) (show decode (zb m_Lift_letIn) 8 = .ok (.iconst (0), 1) from by decide +kernel) (by decide)).trans ?_
  exact r_bret (show decode (zb m_Lift_letIn) 9 = .ok (.ireturn, 1) from by decide +kernel) rfl (by decide)
theorem b_Lift_letIn_10 {C : CF} {d : Nat} {σ : HP} {a0 : Nat} {x1 : Int32} (h1 : a0 % 64 = 5) (h2 : (gR σ a0 2).isSome = true) (h3 : (dr (gR σ a0 2)) % 64 = 1) : runF C d m_Lift_letIn (10, [some (.ref a0), some (.int x1)], [], σ) = some (.inl (some (.int (1 : Int32))), wI σ (dr (gR σ a0 2)) 2 ((gI σ (dr (gR σ a0 2)) 2) ||| (p_shl (1 : Int32) x1))) := by
  refine (r_aloadn 0 (show decode (zb m_Lift_letIn) 10 = .ok (.aload_n 0, 1) from by decide +kernel) rfl).trans ?_
  refine (r_getR (show decode (zb m_Lift_letIn) 11 = .ok (.getfield 28, 3) from by decide +kernel) rfl rfl h1 h2).trans ?_
  refine (r_dupR (show decode (zb m_Lift_letIn) 14 = .ok (.dup, 1) from by decide +kernel)).trans ?_
  refine (r_getI (show decode (zb m_Lift_letIn) 15 = .ok (.getfield 43, 3) from by decide +kernel) rfl rfl h3).trans ?_
  refine (r_iconst (v := (1 : Int32)) (show decode (zb m_Lift_letIn) 18 = .ok (.iconst (1), 1) from by decide +kernel) (by decide)).trans ?_
  refine (r_iloadn 1 (show decode (zb m_Lift_letIn) 19 = .ok (.iload_n 1, 1) from by decide +kernel) rfl).trans ?_
  refine (r_ishl (show decode (zb m_Lift_letIn) 20 = .ok (.ishl, 1) from by decide +kernel)).trans ?_
  refine (r_ior (show decode (zb m_Lift_letIn) 21 = .ok (.ior, 1) from by decide +kernel)).trans ?_
  refine (r_putI (show decode (zb m_Lift_letIn) 22 = .ok (.putfield 43, 3) from by decide +kernel) rfl rfl rfl h3).trans ?_
  refine (r_iconst (v := (1 : Int32)) (show decode (zb m_Lift_letIn) 25 = .ok (.iconst (1), 1) from by decide +kernel) (by decide)).trans ?_
  exact r_bret (show decode (zb m_Lift_letIn) 26 = .ok (.ireturn, 1) from by decide +kernel) rfl (by decide)
theorem e_Lift_letOut {d : Nat} {σ : HP} {a0 : Nat} {x1 : Int32} : callF (d + 1) m_Lift_letOut [.ref a0, .int x1] σ = runF (callF d) d m_Lift_letOut (0, [some (.ref a0), some (.int x1)], [], σ) := callF_in rfl rfl
theorem b_Lift_letOut_0 {C : CF} {d : Nat} {σ : HP} {a0 : Nat} {x1 : Int32} (h1 : a0 % 64 = 5) : runF C d m_Lift_letOut (0, [some (.ref a0), some (.int x1)], [], σ) = bk C d m_Lift_letOut 2 [some (.ref a0), some (.int x1)] [] (C m_Lift_isInside [.ref a0, .int x1] σ) := by
  refine (r_aloadn 0 (show decode (zb m_Lift_letOut) 0 = .ok (.aload_n 0, 1) from by decide +kernel) rfl).trans ?_
  refine (r_iloadn 1 (show decode (zb m_Lift_letOut) 1 = .ok (.iload_n 1, 1) from by decide +kernel) rfl).trans ?_
  exact r_virt (args := [.int x1]) (rest := []) (show decode (zb m_Lift_letOut) 2 = .ok (.invokevirtual 51, 3) from by decide +kernel) rfl rfl rfl h1
theorem b_Lift_letOut_5 {C : CF} {d : Nat} {σ : HP} {s0 : Int32} {l0 : Option Value} {l1 : Option Value}  : runF C d m_Lift_letOut (5, [l0, l1], [.int s0], σ) = if ¬ s0 = 0 then runF C d m_Lift_letOut (10, [l0, l1], [], σ) else runF C d m_Lift_letOut (8, [l0, l1], [], σ) := by
  exact r_if_ne 10 (show decode (zb m_Lift_letOut) 5 = .ok (.ifCond .ne (5), 3) from by decide +kernel) rfl
theorem b_Lift_letOut_8 {C : CF} {d : Nat} {σ : HP} {l0 : Option Value} {l1 : Option Value}  : runF C d m_Lift_letOut (8, [l0, l1], [], σ) = some (.inl (some (.int (0 : Int32))), σ) := by
  refine (r_iconst (v := (0 : Int32)) (show decode (zb m_Lift_letOut) 8 = .ok (.iconst (0), 1) from by decide +kernel) (by decide)).trans ?_
  exact r_bret (show decode (zb m_Lift_letOut) 9 = .ok (.ireturn, 1) from by decide +kernel) rfl (by decide)
theorem b_Lift_letOut_10 {C : CF} {d : Nat} {σ : HP} {a0 : Nat} {x1 : Int32} (h1 : a0 % 64 = 5) (h2 : (gR σ a0 2).isSome = true) (h3 : (dr (gR σ a0 2)) % 64 = 1) (h4 : (gR (wI σ (dr (gR σ a0 2)) 2 ((gI σ (dr (gR σ a0 2)) 2) &&& ((p_shl (1 : Int32) x1) ^^^ (-1 : Int32)))) a0 2).isSome = true) (h5 : (dr (gR (wI σ (dr (gR σ a0 2)) 2 ((gI σ (dr (gR σ a0 2)) 2) &&& ((p_shl (1 : Int32) x1) ^^^ (-1 : Int32)))) a0 2)) % 64 = 1) (h6 : (gR (wI σ (dr (gR σ a0 2)) 2 ((gI σ (dr (gR σ a0 2)) 2) &&& ((p_shl (1 : Int32) x1) ^^^ (-1 : Int32)))) (dr (gR (wI σ (dr (gR σ a0 2)) 2 ((gI σ (dr (gR σ a0 2)) 2) &&& ((p_shl (1 : Int32) x1) ^^^ (-1 : Int32)))) a0 2)) 4).isSome = true) : runF C d m_Lift_letOut (10, [some (.ref a0), some (.int x1)], [], σ) = bkN C d m_Lift_letOut 42 [some (.ref a0), some (.int x1)] [] (C m_PL_put [.ref (dr (gR (wI σ (dr (gR σ a0 2)) 2 ((gI σ (dr (gR σ a0 2)) 2) &&& ((p_shl (1 : Int32) x1) ^^^ (-1 : Int32)))) (dr (gR (wI σ (dr (gR σ a0 2)) 2 ((gI σ (dr (gR σ a0 2)) 2) &&& ((p_shl (1 : Int32) x1) ^^^ (-1 : Int32)))) a0 2)) 4)), .int x1, .int (gI (wI σ (dr (gR σ a0 2)) 2 ((gI σ (dr (gR σ a0 2)) 2) &&& ((p_shl (1 : Int32) x1) ^^^ (-1 : Int32)))) (dr (gR (wI σ (dr (gR σ a0 2)) 2 ((gI σ (dr (gR σ a0 2)) 2) &&& ((p_shl (1 : Int32) x1) ^^^ (-1 : Int32)))) a0 2)) 1)] (wI σ (dr (gR σ a0 2)) 2 ((gI σ (dr (gR σ a0 2)) 2) &&& ((p_shl (1 : Int32) x1) ^^^ (-1 : Int32))))) := by
  refine (r_aloadn 0 (show decode (zb m_Lift_letOut) 10 = .ok (.aload_n 0, 1) from by decide +kernel) rfl).trans ?_
  refine (r_getR (show decode (zb m_Lift_letOut) 11 = .ok (.getfield 28, 3) from by decide +kernel) rfl rfl h1 h2).trans ?_
  refine (r_dupR (show decode (zb m_Lift_letOut) 14 = .ok (.dup, 1) from by decide +kernel)).trans ?_
  refine (r_getI (show decode (zb m_Lift_letOut) 15 = .ok (.getfield 43, 3) from by decide +kernel) rfl rfl h3).trans ?_
  refine (r_iconst (v := (1 : Int32)) (show decode (zb m_Lift_letOut) 18 = .ok (.iconst (1), 1) from by decide +kernel) (by decide)).trans ?_
  refine (r_iloadn 1 (show decode (zb m_Lift_letOut) 19 = .ok (.iload_n 1, 1) from by decide +kernel) rfl).trans ?_
  refine (r_ishl (show decode (zb m_Lift_letOut) 20 = .ok (.ishl, 1) from by decide +kernel)).trans ?_
  refine (r_iconst (v := (-1 : Int32)) (show decode (zb m_Lift_letOut) 21 = .ok (.iconst (-1), 1) from by decide +kernel) (by decide)).trans ?_
  refine (r_ixor (show decode (zb m_Lift_letOut) 22 = .ok (.ixor, 1) from by decide +kernel)).trans ?_
  refine (r_iand (show decode (zb m_Lift_letOut) 23 = .ok (.iand, 1) from by decide +kernel)).trans ?_
  refine (r_putI (show decode (zb m_Lift_letOut) 24 = .ok (.putfield 43, 3) from by decide +kernel) rfl rfl rfl h3).trans ?_
  refine (r_aloadn 0 (show decode (zb m_Lift_letOut) 27 = .ok (.aload_n 0, 1) from by decide +kernel) rfl).trans ?_
  refine (r_getR (show decode (zb m_Lift_letOut) 28 = .ok (.getfield 28, 3) from by decide +kernel) rfl rfl h1 h4).trans ?_
  refine (r_getR (show decode (zb m_Lift_letOut) 31 = .ok (.getfield 58, 3) from by decide +kernel) rfl rfl h5 h6).trans ?_
  refine (r_iloadn 1 (show decode (zb m_Lift_letOut) 34 = .ok (.iload_n 1, 1) from by decide +kernel) rfl).trans ?_
  refine (r_aloadn 0 (show decode (zb m_Lift_letOut) 35 = .ok (.aload_n 0, 1) from by decide +kernel) rfl).trans ?_
  refine (r_getR (show decode (zb m_Lift_letOut) 36 = .ok (.getfield 28, 3) from by decide +kernel) rfl rfl h1 h4).trans ?_
  refine (r_getI (show decode (zb m_Lift_letOut) 39 = .ok (.getfield 55, 3) from by decide +kernel) rfl rfl h5).trans ?_
  exact r_stat (args := [.ref (dr (gR (wI σ (dr (gR σ a0 2)) 2 ((gI σ (dr (gR σ a0 2)) 2) &&& ((p_shl (1 : Int32) x1) ^^^ (-1 : Int32)))) (dr (gR (wI σ (dr (gR σ a0 2)) 2 ((gI σ (dr (gR σ a0 2)) 2) &&& ((p_shl (1 : Int32) x1) ^^^ (-1 : Int32)))) a0 2)) 4)), .int x1, .int (gI (wI σ (dr (gR σ a0 2)) 2 ((gI σ (dr (gR σ a0 2)) 2) &&& ((p_shl (1 : Int32) x1) ^^^ (-1 : Int32)))) (dr (gR (wI σ (dr (gR σ a0 2)) 2 ((gI σ (dr (gR σ a0 2)) 2) &&& ((p_shl (1 : Int32) x1) ^^^ (-1 : Int32)))) a0 2)) 1)]) (rest := []) (show decode (zb m_Lift_letOut) 42 = .ok (.invokestatic 162, 3) from by decide +kernel) rfl (by decide) rfl rfl
theorem b_Lift_letOut_45 {C : CF} {d : Nat} {σ : HP} {l0 : Option Value} {l1 : Option Value}  : runF C d m_Lift_letOut (45, [l0, l1], [], σ) = some (.inl (some (.int (1 : Int32))), σ) := by
  refine (r_iconst (v := (1 : Int32)) (show decode (zb m_Lift_letOut) 45 = .ok (.iconst (1), 1) from by decide +kernel) (by decide)).trans ?_
  exact r_bret (show decode (zb m_Lift_letOut) 46 = .ok (.ireturn, 1) from by decide +kernel) rfl (by decide)
theorem e_Lift_sayTo {d : Nat} {σ : HP} {a0 : Nat} {x1 : Int32} {x2 : Int32} : callF (d + 1) m_Lift_sayTo [.ref a0, .int x1, .int x2] σ = runF (callF d) d m_Lift_sayTo (0, [some (.ref a0), some (.int x1), some (.int x2)], [], σ) := callF_in rfl rfl
theorem b_Lift_sayTo_0 {C : CF} {d : Nat} {σ : HP} {a0 : Nat} {x1 : Int32} {x2 : Int32} (h1 : a0 % 64 = 5) (h2 : (gR σ a0 2).isSome = true) (h3 : (dr (gR σ a0 2)) % 64 = 1) : runF C d m_Lift_sayTo (0, [some (.ref a0), some (.int x1), some (.int x2)], [], σ) = bk C d m_Lift_sayTo 6 [some (.ref a0), some (.int x1), some (.int x2)] [] (C m_Days_timesHeard [.ref (dr (gR σ a0 2)), .int x1, .int x2] σ) := by
  refine (r_aloadn 0 (show decode (zb m_Lift_sayTo) 0 = .ok (.aload_n 0, 1) from by decide +kernel) rfl).trans ?_
  refine (r_getR (show decode (zb m_Lift_sayTo) 1 = .ok (.getfield 28, 3) from by decide +kernel) rfl rfl h1 h2).trans ?_
  refine (r_iloadn 1 (show decode (zb m_Lift_sayTo) 4 = .ok (.iload_n 1, 1) from by decide +kernel) rfl).trans ?_
  refine (r_iloadn 2 (show decode (zb m_Lift_sayTo) 5 = .ok (.iload_n 2, 1) from by decide +kernel) rfl).trans ?_
  exact r_virt (args := [.int x1, .int x2]) (rest := []) (show decode (zb m_Lift_sayTo) 6 = .ok (.invokevirtual 89, 3) from by decide +kernel) rfl rfl rfl h3
theorem b_Lift_sayTo_9 {C : CF} {d : Nat} {σ : HP} {s0 : Int32} {l0 : Option Value} {l1 : Option Value} {l2 : Option Value}  : runF C d m_Lift_sayTo (9, [l0, l1, l2], [.int s0], σ) = if s0 < (9 : Int32) then runF C d m_Lift_sayTo (16, [l0, l1, l2], [], σ) else runF C d m_Lift_sayTo (14, [l0, l1, l2], [], σ) := by
  refine (r_bipush (v := (9 : Int32)) (show decode (zb m_Lift_sayTo) 9 = .ok (.bipush (9), 2) from by decide +kernel) (by decide)).trans ?_
  exact r_icmp_lt 16 (show decode (zb m_Lift_sayTo) 11 = .ok (.if_icmp .lt (5), 3) from by decide +kernel) rfl
theorem b_Lift_sayTo_14 {C : CF} {d : Nat} {σ : HP} {l0 : Option Value} {l1 : Option Value} {l2 : Option Value}  : runF C d m_Lift_sayTo (14, [l0, l1, l2], [], σ) = some (.inl (some (.int (0 : Int32))), σ) := by
  refine (r_iconst (v := (0 : Int32)) (show decode (zb m_Lift_sayTo) 14 = .ok (.iconst (0), 1) from by decide +kernel) (by decide)).trans ?_
  exact r_bret (show decode (zb m_Lift_sayTo) 15 = .ok (.ireturn, 1) from by decide +kernel) rfl (by decide)
theorem b_Lift_sayTo_16 {C : CF} {d : Nat} {σ : HP} {a0 : Nat} {x1 : Int32} {l2 : Option Value} (h1 : a0 % 64 = 5) (h2 : (gR σ a0 2).isSome = true) (h3 : (dr (gR σ a0 2)) % 64 = 1) (h4 : (gR σ (dr (gR σ a0 2)) 5).isSome = true) : runF C d m_Lift_sayTo (16, [some (.ref a0), some (.int x1), l2], [], σ) = bkN C d m_Lift_sayTo 35 [some (.ref a0), some (.int x1), l2] [.int ((900 : Int32)), .int x1, .ref (dr (gR σ (dr (gR σ a0 2)) 5))] (C m_PL_at [.ref (dr (gR σ (dr (gR σ a0 2)) 5)), .int x1] σ) := by
  refine (r_aloadn 0 (show decode (zb m_Lift_sayTo) 16 = .ok (.aload_n 0, 1) from by decide +kernel) rfl).trans ?_
  refine (r_getR (show decode (zb m_Lift_sayTo) 17 = .ok (.getfield 28, 3) from by decide +kernel) rfl rfl h1 h2).trans ?_
  refine (r_getR (show decode (zb m_Lift_sayTo) 20 = .ok (.getfield 69, 3) from by decide +kernel) rfl rfl h3 h4).trans ?_
  refine (r_iloadn 1 (show decode (zb m_Lift_sayTo) 23 = .ok (.iload_n 1, 1) from by decide +kernel) rfl).trans ?_
  refine (r_sipush (v := (900 : Int32)) (show decode (zb m_Lift_sayTo) 24 = .ok (.sipush (900), 3) from by decide +kernel) (by decide)).trans ?_
  refine (r_aloadn 0 (show decode (zb m_Lift_sayTo) 27 = .ok (.aload_n 0, 1) from by decide +kernel) rfl).trans ?_
  refine (r_getR (show decode (zb m_Lift_sayTo) 28 = .ok (.getfield 28, 3) from by decide +kernel) rfl rfl h1 h2).trans ?_
  refine (r_getR (show decode (zb m_Lift_sayTo) 31 = .ok (.getfield 69, 3) from by decide +kernel) rfl rfl h3 h4).trans ?_
  refine (r_iloadn 1 (show decode (zb m_Lift_sayTo) 34 = .ok (.iload_n 1, 1) from by decide +kernel) rfl).trans ?_
  exact r_stat (args := [.ref (dr (gR σ (dr (gR σ a0 2)) 5)), .int x1]) (rest := [.int ((900 : Int32)), .int x1, .ref (dr (gR σ (dr (gR σ a0 2)) 5))]) (show decode (zb m_Lift_sayTo) 35 = .ok (.invokestatic 62, 3) from by decide +kernel) rfl (by decide) rfl rfl
theorem b_Lift_sayTo_38 {C : CF} {d : Nat} {σ : HP} {s0 : Int32} {s1 : Int32} {s2 : Int32} {r3 : Nat} {a0 : Nat} {x1 : Int32} {x2 : Int32} (h1 : a0 % 64 = 5) : runF C d m_Lift_sayTo (38, [some (.ref a0), some (.int x1), some (.int x2)], [.int s0, .int s1, .int s2, .ref r3], σ) = bk C d m_Lift_sayTo 41 [some (.ref a0), some (.int x1), some (.int x2)] [.int s0, .int s1, .int s2, .ref r3] (C m_Lift_swellOf [.ref a0, .int x1, .int x2] σ) := by
  refine (r_aloadn 0 (show decode (zb m_Lift_sayTo) 38 = .ok (.aload_n 0, 1) from by decide +kernel) rfl).trans ?_
  refine (r_iloadn 1 (show decode (zb m_Lift_sayTo) 39 = .ok (.iload_n 1, 1) from by decide +kernel) rfl).trans ?_
  refine (r_iloadn 2 (show decode (zb m_Lift_sayTo) 40 = .ok (.iload_n 2, 1) from by decide +kernel) rfl).trans ?_
  exact r_virt (args := [.int x1, .int x2]) (rest := [.int s0, .int s1, .int s2, .ref r3]) (show decode (zb m_Lift_sayTo) 41 = .ok (.invokevirtual 125, 3) from by decide +kernel) rfl rfl rfl h1
theorem b_Lift_sayTo_44 {C : CF} {d : Nat} {σ : HP} {s0 : Int32} {s1 : Int32} {s2 : Int32} {s3 : Int32} {r4 : Nat} {l0 : Option Value} {l1 : Option Value} {l2 : Option Value}  : runF C d m_Lift_sayTo (44, [l0, l1, l2], [.int s0, .int s1, .int s2, .int s3, .ref r4], σ) = bkN C d m_Lift_sayTo 48 [l0, l1, l2] [] (C m_PL_put [.ref r4, .int s3, .int (p_min s2 (s1 + s0))] σ) := by
  refine (r_iadd (show decode (zb m_Lift_sayTo) 44 = .ok (.iadd, 1) from by decide +kernel)).trans ?_
  refine (r_min (show decode (zb m_Lift_sayTo) 45 = .ok (.invokestatic 128, 3) from by decide +kernel) rfl rfl).trans ?_
  exact r_stat (args := [.ref r4, .int s3, .int (p_min s2 (s1 + s0))]) (rest := []) (show decode (zb m_Lift_sayTo) 48 = .ok (.invokestatic 162, 3) from by decide +kernel) rfl (by decide) rfl rfl
theorem b_Lift_sayTo_51 {C : CF} {d : Nat} {σ : HP} {a0 : Nat} {x1 : Int32} {x2 : Int32} (h1 : a0 % 64 = 5) (h2 : (gR σ a0 2).isSome = true) (h3 : (dr (gR σ a0 2)) % 64 = 1) : runF C d m_Lift_sayTo (51, [some (.ref a0), some (.int x1), some (.int x2)], [], σ) = bk C d m_Lift_sayTo 57 [some (.ref a0), some (.int x1), some (.int x2)] [] (C m_Days_hearOnceMore [.ref (dr (gR σ a0 2)), .int x1, .int x2] σ) := by
  refine (r_aloadn 0 (show decode (zb m_Lift_sayTo) 51 = .ok (.aload_n 0, 1) from by decide +kernel) rfl).trans ?_
  refine (r_getR (show decode (zb m_Lift_sayTo) 52 = .ok (.getfield 28, 3) from by decide +kernel) rfl rfl h1 h2).trans ?_
  refine (r_iloadn 1 (show decode (zb m_Lift_sayTo) 55 = .ok (.iload_n 1, 1) from by decide +kernel) rfl).trans ?_
  refine (r_iloadn 2 (show decode (zb m_Lift_sayTo) 56 = .ok (.iload_n 2, 1) from by decide +kernel) rfl).trans ?_
  exact r_virt (args := [.int x1, .int x2]) (rest := []) (show decode (zb m_Lift_sayTo) 57 = .ok (.invokevirtual 166, 3) from by decide +kernel) rfl rfl rfl h3
theorem b_Lift_sayTo_60 {C : CF} {d : Nat} {σ : HP} {a0 : Nat} {x1 : Int32} {x2 : Int32} (h1 : a0 % 64 = 5) : runF C d m_Lift_sayTo (60, [some (.ref a0), some (.int x1), some (.int x2)], [], σ) = bk C d m_Lift_sayTo 63 [some (.ref a0), some (.int x1), some (.int x2)] [] (C m_Lift_isLie [.ref a0, .int x1, .int x2] σ) := by
  refine (r_aloadn 0 (show decode (zb m_Lift_sayTo) 60 = .ok (.aload_n 0, 1) from by decide +kernel) rfl).trans ?_
  refine (r_iloadn 1 (show decode (zb m_Lift_sayTo) 61 = .ok (.iload_n 1, 1) from by decide +kernel) rfl).trans ?_
  refine (r_iloadn 2 (show decode (zb m_Lift_sayTo) 62 = .ok (.iload_n 2, 1) from by decide +kernel) rfl).trans ?_
  exact r_virt (args := [.int x1, .int x2]) (rest := []) (show decode (zb m_Lift_sayTo) 63 = .ok (.invokevirtual 102, 3) from by decide +kernel) rfl rfl rfl h1
theorem b_Lift_sayTo_66 {C : CF} {d : Nat} {σ : HP} {s0 : Int32} {l0 : Option Value} {l1 : Option Value} {l2 : Option Value}  : runF C d m_Lift_sayTo (66, [l0, l1, l2], [.int s0], σ) = if s0 = 0 then runF C d m_Lift_sayTo (82, [l0, l1, l2], [], σ) else runF C d m_Lift_sayTo (69, [l0, l1, l2], [], σ) := by
  exact r_if_eq 82 (show decode (zb m_Lift_sayTo) 66 = .ok (.ifCond .eq (16), 3) from by decide +kernel) rfl
theorem b_Lift_sayTo_69 {C : CF} {d : Nat} {σ : HP} {a0 : Nat} {l1 : Option Value} {l2 : Option Value} (h1 : a0 % 64 = 5) (h2 : (gR σ a0 2).isSome = true) (h3 : (dr (gR σ a0 2)) % 64 = 1) : runF C d m_Lift_sayTo (69, [some (.ref a0), l1, l2], [], σ) = runF C d m_Lift_sayTo (82, [some (.ref a0), l1, l2], [], wI σ (dr (gR σ a0 2)) 3 ((gI σ (dr (gR σ a0 2)) 3) + (1 : Int32))) := by
  refine (r_aloadn 0 (show decode (zb m_Lift_sayTo) 69 = .ok (.aload_n 0, 1) from by decide +kernel) rfl).trans ?_
  refine (r_getR (show decode (zb m_Lift_sayTo) 70 = .ok (.getfield 28, 3) from by decide +kernel) rfl rfl h1 h2).trans ?_
  refine (r_dupR (show decode (zb m_Lift_sayTo) 73 = .ok (.dup, 1) from by decide +kernel)).trans ?_
  refine (r_getI (show decode (zb m_Lift_sayTo) 74 = .ok (.getfield 170, 3) from by decide +kernel) rfl rfl h3).trans ?_
  refine (r_iconst (v := (1 : Int32)) (show decode (zb m_Lift_sayTo) 77 = .ok (.iconst (1), 1) from by decide +kernel) (by decide)).trans ?_
  refine (r_iadd (show decode (zb m_Lift_sayTo) 78 = .ok (.iadd, 1) from by decide +kernel)).trans ?_
  exact r_putI (show decode (zb m_Lift_sayTo) 79 = .ok (.putfield 170, 3) from by decide +kernel) rfl rfl rfl h3
theorem b_Lift_sayTo_82 {C : CF} {d : Nat} {σ : HP} {l0 : Option Value} {l1 : Option Value} {l2 : Option Value}  : runF C d m_Lift_sayTo (82, [l0, l1, l2], [], σ) = some (.inl (some (.int (1 : Int32))), σ) := by
  refine (r_iconst (v := (1 : Int32)) (show decode (zb m_Lift_sayTo) 82 = .ok (.iconst (1), 1) from by decide +kernel) (by decide)).trans ?_
  exact r_bret (show decode (zb m_Lift_sayTo) 83 = .ok (.ireturn, 1) from by decide +kernel) rfl (by decide)
theorem e_Lift_swellOf {d : Nat} {σ : HP} {a0 : Nat} {x1 : Int32} {x2 : Int32} : callF (d + 1) m_Lift_swellOf [.ref a0, .int x1, .int x2] σ = runF (callF d) d m_Lift_swellOf (0, [some (.ref a0), some (.int x1), some (.int x2)], [], σ) := callF_in rfl rfl
theorem b_Lift_swellOf_0 {C : CF} {d : Nat} {σ : HP} {a0 : Nat} {x2 : Int32} {l1 : Option Value} (h1 : a0 % 64 = 5) (h2 : (gR σ a0 1).isSome = true) (h3 : (gR σ a0 0).isSome = true) (h4 : (dr (gR σ a0 0)) % 64 = 2) (h5 : (gR σ (dr (gR σ a0 0)) 7).isSome = true) : runF C d m_Lift_swellOf (0, [some (.ref a0), l1, some (.int x2)], [], σ) = bkN C d m_Lift_swellOf 12 [some (.ref a0), l1, some (.int x2)] [.ref (dr (gR σ a0 1))] (C m_PL_at [.ref (dr (gR σ (dr (gR σ a0 0)) 7)), .int x2] σ) := by
  refine (r_aloadn 0 (show decode (zb m_Lift_swellOf) 0 = .ok (.aload_n 0, 1) from by decide +kernel) rfl).trans ?_
  refine (r_getR (show decode (zb m_Lift_swellOf) 1 = .ok (.getfield 21, 3) from by decide +kernel) rfl rfl h1 h2).trans ?_
  refine (r_aloadn 0 (show decode (zb m_Lift_swellOf) 4 = .ok (.aload_n 0, 1) from by decide +kernel) rfl).trans ?_
  refine (r_getR (show decode (zb m_Lift_swellOf) 5 = .ok (.getfield 12, 3) from by decide +kernel) rfl rfl h1 h3).trans ?_
  refine (r_getR (show decode (zb m_Lift_swellOf) 8 = .ok (.getfield 105, 3) from by decide +kernel) rfl rfl h4 h5).trans ?_
  refine (r_iloadn 2 (show decode (zb m_Lift_swellOf) 11 = .ok (.iload_n 2, 1) from by decide +kernel) rfl).trans ?_
  exact r_stat (args := [.ref (dr (gR σ (dr (gR σ a0 0)) 7)), .int x2]) (rest := [.ref (dr (gR σ a0 1))]) (show decode (zb m_Lift_swellOf) 12 = .ok (.invokestatic 62, 3) from by decide +kernel) rfl (by decide) rfl rfl
theorem b_Lift_swellOf_15 {C : CF} {d : Nat} {σ : HP} {s0 : Int32} {r1 : Nat} {a0 : Nat} {x2 : Int32} {l1 : Option Value} (h1 : a0 % 64 = 5) (h2 : (gR σ a0 0).isSome = true) (h3 : (dr (gR σ a0 0)) % 64 = 2) (h4 : (gR σ (dr (gR σ a0 0)) 8).isSome = true) : runF C d m_Lift_swellOf (15, [some (.ref a0), l1, some (.int x2)], [.int s0, .ref r1], σ) = bkN C d m_Lift_swellOf 23 [some (.ref a0), l1, some (.int x2)] [.int s0, .ref r1] (C m_PL_at [.ref (dr (gR σ (dr (gR σ a0 0)) 8)), .int x2] σ) := by
  refine (r_aloadn 0 (show decode (zb m_Lift_swellOf) 15 = .ok (.aload_n 0, 1) from by decide +kernel) rfl).trans ?_
  refine (r_getR (show decode (zb m_Lift_swellOf) 16 = .ok (.getfield 12, 3) from by decide +kernel) rfl rfl h1 h2).trans ?_
  refine (r_getR (show decode (zb m_Lift_swellOf) 19 = .ok (.getfield 93, 3) from by decide +kernel) rfl rfl h3 h4).trans ?_
  refine (r_iloadn 2 (show decode (zb m_Lift_swellOf) 22 = .ok (.iload_n 2, 1) from by decide +kernel) rfl).trans ?_
  exact r_stat (args := [.ref (dr (gR σ (dr (gR σ a0 0)) 8)), .int x2]) (rest := [.int s0, .ref r1]) (show decode (zb m_Lift_swellOf) 23 = .ok (.invokestatic 62, 3) from by decide +kernel) rfl (by decide) rfl rfl
theorem b_Lift_swellOf_26 {C : CF} {d : Nat} {σ : HP} {s0 : Int32} {s1 : Int32} {r2 : Nat} {a0 : Nat} {x1 : Int32} {x2 : Int32} (h1 : a0 % 64 = 5) (h2 : (gR σ a0 2).isSome = true) (h3 : (dr (gR σ a0 2)) % 64 = 1) : runF C d m_Lift_swellOf (26, [some (.ref a0), some (.int x1), some (.int x2)], [.int s0, .int s1, .ref r2], σ) = bk C d m_Lift_swellOf 32 [some (.ref a0), some (.int x1), some (.int x2)] [.int s0, .int s1, .ref r2] (C m_Days_timesHeard [.ref (dr (gR σ a0 2)), .int x1, .int x2] σ) := by
  refine (r_aloadn 0 (show decode (zb m_Lift_swellOf) 26 = .ok (.aload_n 0, 1) from by decide +kernel) rfl).trans ?_
  refine (r_getR (show decode (zb m_Lift_swellOf) 27 = .ok (.getfield 28, 3) from by decide +kernel) rfl rfl h1 h2).trans ?_
  refine (r_iloadn 1 (show decode (zb m_Lift_swellOf) 30 = .ok (.iload_n 1, 1) from by decide +kernel) rfl).trans ?_
  refine (r_iloadn 2 (show decode (zb m_Lift_swellOf) 31 = .ok (.iload_n 2, 1) from by decide +kernel) rfl).trans ?_
  exact r_virt (args := [.int x1, .int x2]) (rest := [.int s0, .int s1, .ref r2]) (show decode (zb m_Lift_swellOf) 32 = .ok (.invokevirtual 89, 3) from by decide +kernel) rfl rfl rfl h3
theorem b_Lift_swellOf_35 {C : CF} {d : Nat} {σ : HP} {s0 : Int32} {s1 : Int32} {s2 : Int32} {r3 : Nat} {l0 : Option Value} {l1 : Option Value} {l2 : Option Value} (h1 : r3 % 64 = 4) : runF C d m_Lift_swellOf (35, [l0, l1, l2], [.int s0, .int s1, .int s2, .ref r3], σ) = bk C d m_Lift_swellOf 35 [l0, l1, l2] [] (C m_Law_tellWords [.ref r3, .int s2, .int s1, .int s0] σ) := by
  exact r_virt (args := [.int s2, .int s1, .int s0]) (rest := []) (show decode (zb m_Lift_swellOf) 35 = .ok (.invokevirtual 108, 3) from by decide +kernel) rfl rfl rfl h1
theorem b_Lift_swellOf_38 {C : CF} {d : Nat} {σ : HP} {a0 : Nat} {x1 : Int32} {l2 : Option Value} (h1 : a0 % 64 = 5) (h2 : (gR σ a0 1).isSome = true) (h3 : (gR σ a0 0).isSome = true) (h4 : (dr (gR σ a0 0)) % 64 = 2) (h5 : (gR σ (dr (gR σ a0 0)) 6).isSome = true) : runF C d m_Lift_swellOf (38, [some (.ref a0), some (.int x1), l2], [], σ) = bkN C d m_Lift_swellOf 50 [some (.ref a0), some (.int x1), l2] [.ref (dr (gR σ a0 1))] (C m_PL_at [.ref (dr (gR σ (dr (gR σ a0 0)) 6)), .int x1] σ) := by
  refine (r_aloadn 0 (show decode (zb m_Lift_swellOf) 38 = .ok (.aload_n 0, 1) from by decide +kernel) rfl).trans ?_
  refine (r_getR (show decode (zb m_Lift_swellOf) 39 = .ok (.getfield 21, 3) from by decide +kernel) rfl rfl h1 h2).trans ?_
  refine (r_aloadn 0 (show decode (zb m_Lift_swellOf) 42 = .ok (.aload_n 0, 1) from by decide +kernel) rfl).trans ?_
  refine (r_getR (show decode (zb m_Lift_swellOf) 43 = .ok (.getfield 12, 3) from by decide +kernel) rfl rfl h1 h3).trans ?_
  refine (r_getR (show decode (zb m_Lift_swellOf) 46 = .ok (.getfield 96, 3) from by decide +kernel) rfl rfl h4 h5).trans ?_
  refine (r_iloadn 1 (show decode (zb m_Lift_swellOf) 49 = .ok (.iload_n 1, 1) from by decide +kernel) rfl).trans ?_
  exact r_stat (args := [.ref (dr (gR σ (dr (gR σ a0 0)) 6)), .int x1]) (rest := [.ref (dr (gR σ a0 1))]) (show decode (zb m_Lift_swellOf) 50 = .ok (.invokestatic 62, 3) from by decide +kernel) rfl (by decide) rfl rfl
theorem b_Lift_swellOf_53 {C : CF} {d : Nat} {σ : HP} {s0 : Int32} {r1 : Nat} {a0 : Nat} {x1 : Int32} {l2 : Option Value} (h1 : a0 % 64 = 5) (h2 : (gR σ a0 0).isSome = true) (h3 : (dr (gR σ a0 0)) % 64 = 2) (h4 : (gR σ (dr (gR σ a0 0)) 5).isSome = true) : runF C d m_Lift_swellOf (53, [some (.ref a0), some (.int x1), l2], [.int s0, .ref r1], σ) = bkN C d m_Lift_swellOf 61 [some (.ref a0), some (.int x1), l2] [.int s0, .ref r1] (C m_PL_at [.ref (dr (gR σ (dr (gR σ a0 0)) 5)), .int x1] σ) := by
  refine (r_aloadn 0 (show decode (zb m_Lift_swellOf) 53 = .ok (.aload_n 0, 1) from by decide +kernel) rfl).trans ?_
  refine (r_getR (show decode (zb m_Lift_swellOf) 54 = .ok (.getfield 12, 3) from by decide +kernel) rfl rfl h1 h2).trans ?_
  refine (r_getR (show decode (zb m_Lift_swellOf) 57 = .ok (.getfield 66, 3) from by decide +kernel) rfl rfl h3 h4).trans ?_
  refine (r_iloadn 1 (show decode (zb m_Lift_swellOf) 60 = .ok (.iload_n 1, 1) from by decide +kernel) rfl).trans ?_
  exact r_stat (args := [.ref (dr (gR σ (dr (gR σ a0 0)) 5)), .int x1]) (rest := [.int s0, .ref r1]) (show decode (zb m_Lift_swellOf) 61 = .ok (.invokestatic 62, 3) from by decide +kernel) rfl (by decide) rfl rfl
theorem b_Lift_swellOf_64 {C : CF} {d : Nat} {σ : HP} {s0 : Int32} {s1 : Int32} {r2 : Nat} {a0 : Nat} {x1 : Int32} {l2 : Option Value} (h1 : a0 % 64 = 5) (h2 : (gR σ a0 2).isSome = true) (h3 : (dr (gR σ a0 2)) % 64 = 1) (h4 : (gR σ (dr (gR σ a0 2)) 5).isSome = true) : runF C d m_Lift_swellOf (64, [some (.ref a0), some (.int x1), l2], [.int s0, .int s1, .ref r2], σ) = bkN C d m_Lift_swellOf 72 [some (.ref a0), some (.int x1), l2] [.int s0, .int s1, .ref r2] (C m_PL_at [.ref (dr (gR σ (dr (gR σ a0 2)) 5)), .int x1] σ) := by
  refine (r_aloadn 0 (show decode (zb m_Lift_swellOf) 64 = .ok (.aload_n 0, 1) from by decide +kernel) rfl).trans ?_
  refine (r_getR (show decode (zb m_Lift_swellOf) 65 = .ok (.getfield 28, 3) from by decide +kernel) rfl rfl h1 h2).trans ?_
  refine (r_getR (show decode (zb m_Lift_swellOf) 68 = .ok (.getfield 69, 3) from by decide +kernel) rfl rfl h3 h4).trans ?_
  refine (r_iloadn 1 (show decode (zb m_Lift_swellOf) 71 = .ok (.iload_n 1, 1) from by decide +kernel) rfl).trans ?_
  exact r_stat (args := [.ref (dr (gR σ (dr (gR σ a0 2)) 5)), .int x1]) (rest := [.int s0, .int s1, .ref r2]) (show decode (zb m_Lift_swellOf) 72 = .ok (.invokestatic 62, 3) from by decide +kernel) rfl (by decide) rfl rfl
theorem b_Lift_swellOf_75 {C : CF} {d : Nat} {σ : HP} {s0 : Int32} {s1 : Int32} {s2 : Int32} {r3 : Nat} {l0 : Option Value} {l1 : Option Value} {l2 : Option Value} (h1 : r3 % 64 = 4) : runF C d m_Lift_swellOf (75, [l0, l1, l2], [.int s0, .int s1, .int s2, .ref r3], σ) = bk C d m_Lift_swellOf 75 [l0, l1, l2] [] (C m_Law_tellMan [.ref r3, .int s2, .int s1, .int s0] σ) := by
  exact r_virt (args := [.int s2, .int s1, .int s0]) (rest := []) (show decode (zb m_Lift_swellOf) 75 = .ok (.invokevirtual 112, 3) from by decide +kernel) rfl rfl rfl h1
theorem b_Lift_swellOf_78 {C : CF} {d : Nat} {σ : HP} {a0 : Nat} {x1 : Int32} {l2 : Option Value} (h1 : a0 % 64 = 5) (h2 : (gR σ a0 1).isSome = true) (h3 : (gR σ a0 2).isSome = true) (h4 : (dr (gR σ a0 2)) % 64 = 1) (h5 : (gR σ (dr (gR σ a0 2)) 6).isSome = true) : runF C d m_Lift_swellOf (78, [some (.ref a0), some (.int x1), l2], [], σ) = bkN C d m_Lift_swellOf 90 [some (.ref a0), some (.int x1), l2] [.ref (dr (gR σ a0 1))] (C m_PL_at [.ref (dr (gR σ (dr (gR σ a0 2)) 6)), .int x1] σ) := by
  refine (r_aloadn 0 (show decode (zb m_Lift_swellOf) 78 = .ok (.aload_n 0, 1) from by decide +kernel) rfl).trans ?_
  refine (r_getR (show decode (zb m_Lift_swellOf) 79 = .ok (.getfield 21, 3) from by decide +kernel) rfl rfl h1 h2).trans ?_
  refine (r_aloadn 0 (show decode (zb m_Lift_swellOf) 82 = .ok (.aload_n 0, 1) from by decide +kernel) rfl).trans ?_
  refine (r_getR (show decode (zb m_Lift_swellOf) 83 = .ok (.getfield 28, 3) from by decide +kernel) rfl rfl h1 h3).trans ?_
  refine (r_getR (show decode (zb m_Lift_swellOf) 86 = .ok (.getfield 86, 3) from by decide +kernel) rfl rfl h4 h5).trans ?_
  refine (r_iloadn 1 (show decode (zb m_Lift_swellOf) 89 = .ok (.iload_n 1, 1) from by decide +kernel) rfl).trans ?_
  exact r_stat (args := [.ref (dr (gR σ (dr (gR σ a0 2)) 6)), .int x1]) (rest := [.ref (dr (gR σ a0 1))]) (show decode (zb m_Lift_swellOf) 90 = .ok (.invokestatic 62, 3) from by decide +kernel) rfl (by decide) rfl rfl
theorem b_Lift_swellOf_93 {C : CF} {d : Nat} {σ : HP} {s0 : Int32} {r1 : Nat} {a0 : Nat} {x1 : Int32} {l2 : Option Value} (h1 : a0 % 64 = 5) : runF C d m_Lift_swellOf (93, [some (.ref a0), some (.int x1), l2], [.int s0, .ref r1], σ) = bk C d m_Lift_swellOf 95 [some (.ref a0), some (.int x1), l2] [.int s0, .ref r1] (C m_Lift_placeOf [.ref a0, .int x1] σ) := by
  refine (r_aloadn 0 (show decode (zb m_Lift_swellOf) 93 = .ok (.aload_n 0, 1) from by decide +kernel) rfl).trans ?_
  refine (r_iloadn 1 (show decode (zb m_Lift_swellOf) 94 = .ok (.iload_n 1, 1) from by decide +kernel) rfl).trans ?_
  exact r_virt (args := [.int x1]) (rest := [.int s0, .ref r1]) (show decode (zb m_Lift_swellOf) 95 = .ok (.invokevirtual 115, 3) from by decide +kernel) rfl rfl rfl h1
theorem b_Lift_swellOf_98 {C : CF} {d : Nat} {σ : HP} {s0 : Int32} {s1 : Int32} {r2 : Nat} {x1 : Int32} {l0 : Option Value} {l2 : Option Value} (h1 : r2 % 64 = 4) : runF C d m_Lift_swellOf (98, [l0, some (.int x1), l2], [.int s0, .int s1, .ref r2], σ) = bk C d m_Lift_swellOf 99 [l0, some (.int x1), l2] [] (C m_Law_tellWhere [.ref r2, .int s1, .int s0, .int x1] σ) := by
  refine (r_iloadn 1 (show decode (zb m_Lift_swellOf) 98 = .ok (.iload_n 1, 1) from by decide +kernel) rfl).trans ?_
  exact r_virt (args := [.int s1, .int s0, .int x1]) (rest := []) (show decode (zb m_Lift_swellOf) 99 = .ok (.invokevirtual 118, 3) from by decide +kernel) rfl rfl rfl h1
theorem b_Lift_swellOf_102 {C : CF} {d : Nat} {σ : HP} {a0 : Nat} {l1 : Option Value} {l2 : Option Value} (h1 : a0 % 64 = 5) (h2 : (gR σ a0 1).isSome = true) (h3 : (dr (gR σ a0 1)) % 64 = 4) : runF C d m_Lift_swellOf (102, [some (.ref a0), l1, l2], [], σ) = bk C d m_Lift_swellOf 106 [some (.ref a0), l1, l2] [] (C m_Law_swellByFacts [.ref (dr (gR σ a0 1))] σ) := by
  refine (r_aloadn 0 (show decode (zb m_Lift_swellOf) 102 = .ok (.aload_n 0, 1) from by decide +kernel) rfl).trans ?_
  refine (r_getR (show decode (zb m_Lift_swellOf) 103 = .ok (.getfield 21, 3) from by decide +kernel) rfl rfl h1 h2).trans ?_
  exact r_virt (args := []) (rest := []) (show decode (zb m_Lift_swellOf) 106 = .ok (.invokevirtual 121, 3) from by decide +kernel) rfl rfl rfl h3
theorem b_Lift_swellOf_109 {C : CF} {d : Nat} {σ : HP} {s0 : Int32} {l0 : Option Value} {l1 : Option Value} {l2 : Option Value}  : runF C d m_Lift_swellOf (109, [l0, l1, l2], [.int s0], σ) = some (.inl (some (.int s0)), σ) := by
  exact r_iret (show decode (zb m_Lift_swellOf) 109 = .ok (.ireturn, 1) from by decide +kernel) rfl rfl
theorem e_Lift_isLie {d : Nat} {σ : HP} {a0 : Nat} {x1 : Int32} {x2 : Int32} : callF (d + 1) m_Lift_isLie [.ref a0, .int x1, .int x2] σ = runF (callF d) d m_Lift_isLie (0, [some (.ref a0), some (.int x1), some (.int x2)], [], σ) := callF_in rfl rfl
theorem b_Lift_isLie_0 {C : CF} {d : Nat} {σ : HP} {a0 : Nat} {x2 : Int32} {l1 : Option Value} (h1 : a0 % 64 = 5) (h2 : (gR σ a0 0).isSome = true) (h3 : (dr (gR σ a0 0)) % 64 = 2) (h4 : (gR σ (dr (gR σ a0 0)) 8).isSome = true) : runF C d m_Lift_isLie (0, [some (.ref a0), l1, some (.int x2)], [], σ) = bkN C d m_Lift_isLie 8 [some (.ref a0), l1, some (.int x2)] [] (C m_PL_at [.ref (dr (gR σ (dr (gR σ a0 0)) 8)), .int x2] σ) := by
  refine (r_aloadn 0 (show decode (zb m_Lift_isLie) 0 = .ok (.aload_n 0, 1) from by decide +kernel) rfl).trans ?_
  refine (r_getR (show decode (zb m_Lift_isLie) 1 = .ok (.getfield 12, 3) from by decide +kernel) rfl rfl h1 h2).trans ?_
  refine (r_getR (show decode (zb m_Lift_isLie) 4 = .ok (.getfield 93, 3) from by decide +kernel) rfl rfl h3 h4).trans ?_
  refine (r_iloadn 2 (show decode (zb m_Lift_isLie) 7 = .ok (.iload_n 2, 1) from by decide +kernel) rfl).trans ?_
  exact r_stat (args := [.ref (dr (gR σ (dr (gR σ a0 0)) 8)), .int x2]) (rest := []) (show decode (zb m_Lift_isLie) 8 = .ok (.invokestatic 62, 3) from by decide +kernel) rfl (by decide) rfl rfl
theorem b_Lift_isLie_11 {C : CF} {d : Nat} {σ : HP} {s0 : Int32} {a0 : Nat} {x1 : Int32} {l2 : Option Value} (h1 : a0 % 64 = 5) (h2 : (gR σ a0 0).isSome = true) (h3 : (dr (gR σ a0 0)) % 64 = 2) (h4 : (gR σ (dr (gR σ a0 0)) 6).isSome = true) : runF C d m_Lift_isLie (11, [some (.ref a0), some (.int x1), l2], [.int s0], σ) = bkN C d m_Lift_isLie 19 [some (.ref a0), some (.int x1), l2] [.int s0] (C m_PL_at [.ref (dr (gR σ (dr (gR σ a0 0)) 6)), .int x1] σ) := by
  refine (r_aloadn 0 (show decode (zb m_Lift_isLie) 11 = .ok (.aload_n 0, 1) from by decide +kernel) rfl).trans ?_
  refine (r_getR (show decode (zb m_Lift_isLie) 12 = .ok (.getfield 12, 3) from by decide +kernel) rfl rfl h1 h2).trans ?_
  refine (r_getR (show decode (zb m_Lift_isLie) 15 = .ok (.getfield 96, 3) from by decide +kernel) rfl rfl h3 h4).trans ?_
  refine (r_iloadn 1 (show decode (zb m_Lift_isLie) 18 = .ok (.iload_n 1, 1) from by decide +kernel) rfl).trans ?_
  exact r_stat (args := [.ref (dr (gR σ (dr (gR σ a0 0)) 6)), .int x1]) (rest := [.int s0]) (show decode (zb m_Lift_isLie) 19 = .ok (.invokestatic 62, 3) from by decide +kernel) rfl (by decide) rfl rfl
theorem b_Lift_isLie_22 {C : CF} {d : Nat} {σ : HP} {s0 : Int32} {s1 : Int32} {l0 : Option Value} {l1 : Option Value} {l2 : Option Value}  : runF C d m_Lift_isLie (22, [l0, l1, l2], [.int s0, .int s1], σ) = if s0 ≤ s1 then runF C d m_Lift_isLie (29, [l0, l1, l2], [], σ) else runF C d m_Lift_isLie (25, [l0, l1, l2], [], σ) := by
  exact r_icmp_ge 29 (show decode (zb m_Lift_isLie) 22 = .ok (.if_icmp .ge (7), 3) from by decide +kernel) rfl
theorem b_Lift_isLie_25 {C : CF} {d : Nat} {σ : HP} {l0 : Option Value} {l1 : Option Value} {l2 : Option Value}  : runF C d m_Lift_isLie (25, [l0, l1, l2], [], σ) = runF C d m_Lift_isLie (30, [l0, l1, l2], [.int ((1 : Int32))], σ) := by
  refine (r_iconst (v := (1 : Int32)) (show decode (zb m_Lift_isLie) 25 = .ok (.iconst (1), 1) from by decide +kernel) (by decide)).trans ?_
  exact r_goto 30 (show decode (zb m_Lift_isLie) 26 = .ok (.goto (4), 3) from by decide +kernel) rfl
theorem b_Lift_isLie_29 {C : CF} {d : Nat} {σ : HP} {l0 : Option Value} {l1 : Option Value} {l2 : Option Value}  : runF C d m_Lift_isLie (29, [l0, l1, l2], [], σ) = runF C d m_Lift_isLie (30, [l0, l1, l2], [.int ((0 : Int32))], σ) := by
  exact r_iconst (v := (0 : Int32)) (show decode (zb m_Lift_isLie) 29 = .ok (.iconst (0), 1) from by decide +kernel) (by decide)
theorem b_Lift_isLie_30 {C : CF} {d : Nat} {σ : HP} {s0 : Int32} {l0 : Option Value} {l1 : Option Value} {l2 : Option Value} (h1 : s0 = 0 ∨ s0 = 1) : runF C d m_Lift_isLie (30, [l0, l1, l2], [.int s0], σ) = some (.inl (some (.int s0)), σ) := by
  exact r_bret (show decode (zb m_Lift_isLie) 30 = .ok (.ireturn, 1) from by decide +kernel) rfl h1
theorem e_Lift_insultOne {d : Nat} {σ : HP} {a0 : Nat} {x1 : Int32} : callF (d + 1) m_Lift_insultOne [.ref a0, .int x1] σ = runF (callF d) d m_Lift_insultOne (0, [some (.ref a0), some (.int x1)], [], σ) := callF_in rfl rfl
theorem b_Lift_insultOne_0 {C : CF} {d : Nat} {σ : HP} {a0 : Nat} {x1 : Int32} (h1 : a0 % 64 = 5) (h2 : (gR σ a0 2).isSome = true) (h3 : (dr (gR σ a0 2)) % 64 = 1) (h4 : (gR σ (dr (gR σ a0 2)) 5).isSome = true) : runF C d m_Lift_insultOne (0, [some (.ref a0), some (.int x1)], [], σ) = bkN C d m_Lift_insultOne 8 [some (.ref a0), some (.int x1)] [] (C m_PL_at [.ref (dr (gR σ (dr (gR σ a0 2)) 5)), .int x1] σ) := by
  refine (r_aloadn 0 (show decode (zb m_Lift_insultOne) 0 = .ok (.aload_n 0, 1) from by decide +kernel) rfl).trans ?_
  refine (r_getR (show decode (zb m_Lift_insultOne) 1 = .ok (.getfield 28, 3) from by decide +kernel) rfl rfl h1 h2).trans ?_
  refine (r_getR (show decode (zb m_Lift_insultOne) 4 = .ok (.getfield 69, 3) from by decide +kernel) rfl rfl h3 h4).trans ?_
  refine (r_iloadn 1 (show decode (zb m_Lift_insultOne) 7 = .ok (.iload_n 1, 1) from by decide +kernel) rfl).trans ?_
  exact r_stat (args := [.ref (dr (gR σ (dr (gR σ a0 2)) 5)), .int x1]) (rest := []) (show decode (zb m_Lift_insultOne) 8 = .ok (.invokestatic 62, 3) from by decide +kernel) rfl (by decide) rfl rfl
theorem b_Lift_insultOne_11 {C : CF} {d : Nat} {σ : HP} {s0 : Int32} {l0 : Option Value} {l1 : Option Value}  : runF C d m_Lift_insultOne (11, [l0, l1], [.int s0], σ) = if ¬ s0 = 0 then runF C d m_Lift_insultOne (16, [l0, l1], [], σ) else runF C d m_Lift_insultOne (14, [l0, l1], [], σ) := by
  exact r_if_ne 16 (show decode (zb m_Lift_insultOne) 11 = .ok (.ifCond .ne (5), 3) from by decide +kernel) rfl
theorem b_Lift_insultOne_14 {C : CF} {d : Nat} {σ : HP} {l0 : Option Value} {l1 : Option Value}  : runF C d m_Lift_insultOne (14, [l0, l1], [], σ) = some (.inl (some (.int (0 : Int32))), σ) := by
  refine (r_iconst (v := (0 : Int32)) (show decode (zb m_Lift_insultOne) 14 = .ok (.iconst (0), 1) from by decide +kernel) (by decide)).trans ?_
  exact r_bret (show decode (zb m_Lift_insultOne) 15 = .ok (.ireturn, 1) from by decide +kernel) rfl (by decide)
theorem b_Lift_insultOne_16 {C : CF} {d : Nat} {σ : HP} {a0 : Nat} {x1 : Int32} (h1 : a0 % 64 = 5) (h2 : (gR σ a0 2).isSome = true) (h3 : (dr (gR σ a0 2)) % 64 = 1) (h4 : (gR σ (dr (gR σ a0 2)) 5).isSome = true) : runF C d m_Lift_insultOne (16, [some (.ref a0), some (.int x1)], [], σ) = bkN C d m_Lift_insultOne 25 [some (.ref a0), some (.int x1)] [] (C m_PL_put [.ref (dr (gR σ (dr (gR σ a0 2)) 5)), .int x1, .int ((0 : Int32))] σ) := by
  refine (r_aloadn 0 (show decode (zb m_Lift_insultOne) 16 = .ok (.aload_n 0, 1) from by decide +kernel) rfl).trans ?_
  refine (r_getR (show decode (zb m_Lift_insultOne) 17 = .ok (.getfield 28, 3) from by decide +kernel) rfl rfl h1 h2).trans ?_
  refine (r_getR (show decode (zb m_Lift_insultOne) 20 = .ok (.getfield 69, 3) from by decide +kernel) rfl rfl h3 h4).trans ?_
  refine (r_iloadn 1 (show decode (zb m_Lift_insultOne) 23 = .ok (.iload_n 1, 1) from by decide +kernel) rfl).trans ?_
  refine (r_iconst (v := (0 : Int32)) (show decode (zb m_Lift_insultOne) 24 = .ok (.iconst (0), 1) from by decide +kernel) (by decide)).trans ?_
  exact r_stat (args := [.ref (dr (gR σ (dr (gR σ a0 2)) 5)), .int x1, .int ((0 : Int32))]) (rest := []) (show decode (zb m_Lift_insultOne) 25 = .ok (.invokestatic 162, 3) from by decide +kernel) rfl (by decide) rfl rfl
theorem b_Lift_insultOne_28 {C : CF} {d : Nat} {σ : HP} {a0 : Nat} {x1 : Int32} (h1 : a0 % 64 = 5) : runF C d m_Lift_insultOne (28, [some (.ref a0), some (.int x1)], [], σ) = bk C d m_Lift_insultOne 30 [some (.ref a0), some (.int x1)] [] (C m_Lift_isInside [.ref a0, .int x1] σ) := by
  refine (r_aloadn 0 (show decode (zb m_Lift_insultOne) 28 = .ok (.aload_n 0, 1) from by decide +kernel) rfl).trans ?_
  refine (r_iloadn 1 (show decode (zb m_Lift_insultOne) 29 = .ok (.iload_n 1, 1) from by decide +kernel) rfl).trans ?_
  exact r_virt (args := [.int x1]) (rest := []) (show decode (zb m_Lift_insultOne) 30 = .ok (.invokevirtual 51, 3) from by decide +kernel) rfl rfl rfl h1
theorem b_Lift_insultOne_33 {C : CF} {d : Nat} {σ : HP} {s0 : Int32} {l0 : Option Value} {l1 : Option Value}  : runF C d m_Lift_insultOne (33, [l0, l1], [.int s0], σ) = if s0 = 0 then runF C d m_Lift_insultOne (52, [l0, l1], [], σ) else runF C d m_Lift_insultOne (36, [l0, l1], [], σ) := by
  exact r_if_eq 52 (show decode (zb m_Lift_insultOne) 33 = .ok (.ifCond .eq (19), 3) from by decide +kernel) rfl
theorem b_Lift_insultOne_36 {C : CF} {d : Nat} {σ : HP} {a0 : Nat} {l1 : Option Value} (h1 : a0 % 64 = 5) (h2 : (gR σ a0 2).isSome = true) (h3 : (gR σ a0 0).isSome = true) (h4 : (dr (gR σ a0 0)) % 64 = 2) (h5 : (dr (gR σ a0 2)) % 64 = 1) : runF C d m_Lift_insultOne (36, [some (.ref a0), l1], [], σ) = runF C d m_Lift_insultOne (52, [some (.ref a0), l1], [], wI σ (dr (gR σ a0 2)) 1 ((gI σ (dr (gR σ a0 0)) 0) - (1 : Int32))) := by
  refine (r_aloadn 0 (show decode (zb m_Lift_insultOne) 36 = .ok (.aload_n 0, 1) from by decide +kernel) rfl).trans ?_
  refine (r_getR (show decode (zb m_Lift_insultOne) 37 = .ok (.getfield 28, 3) from by decide +kernel) rfl rfl h1 h2).trans ?_
  refine (r_aloadn 0 (show decode (zb m_Lift_insultOne) 40 = .ok (.aload_n 0, 1) from by decide +kernel) rfl).trans ?_
  refine (r_getR (show decode (zb m_Lift_insultOne) 41 = .ok (.getfield 12, 3) from by decide +kernel) rfl rfl h1 h3).trans ?_
  refine (r_getI (show decode (zb m_Lift_insultOne) 44 = .ok (.getfield 139, 3) from by decide +kernel) rfl rfl h4).trans ?_
  refine (r_iconst (v := (1 : Int32)) (show decode (zb m_Lift_insultOne) 47 = .ok (.iconst (1), 1) from by decide +kernel) (by decide)).trans ?_
  refine (r_isub (show decode (zb m_Lift_insultOne) 48 = .ok (.isub, 1) from by decide +kernel)).trans ?_
  exact r_putI (show decode (zb m_Lift_insultOne) 49 = .ok (.putfield 55, 3) from by decide +kernel) rfl rfl rfl h5
theorem b_Lift_insultOne_52 {C : CF} {d : Nat} {σ : HP} {l0 : Option Value} {l1 : Option Value}  : runF C d m_Lift_insultOne (52, [l0, l1], [], σ) = some (.inl (some (.int (1 : Int32))), σ) := by
  refine (r_iconst (v := (1 : Int32)) (show decode (zb m_Lift_insultOne) 52 = .ok (.iconst (1), 1) from by decide +kernel) (by decide)).trans ?_
  exact r_bret (show decode (zb m_Lift_insultOne) 53 = .ok (.ireturn, 1) from by decide +kernel) rfl (by decide)
theorem e_Lift_goOnce {d : Nat} {σ : HP} {a0 : Nat} : callF (d + 1) m_Lift_goOnce [.ref a0] σ = runF (callF d) d m_Lift_goOnce (0, [some (.ref a0), none], [], σ) := callF_in rfl rfl
theorem b_Lift_goOnce_0 {C : CF} {d : Nat} {σ : HP} {a0 : Nat} {l1 : Option Value} (h1 : a0 % 64 = 5) (h2 : (gR σ a0 2).isSome = true) (h3 : (dr (gR σ a0 2)) % 64 = 1) : runF C d m_Lift_goOnce (0, [some (.ref a0), l1], [], σ) = if ¬ (gI σ (dr (gR σ a0 2)) 2) = 0 then runF C d m_Lift_goOnce (12, [some (.ref a0), l1], [], σ) else runF C d m_Lift_goOnce (10, [some (.ref a0), l1], [], σ) := by
  refine (r_aloadn 0 (show decode (zb m_Lift_goOnce) 0 = .ok (.aload_n 0, 1) from by decide +kernel) rfl).trans ?_
  refine (r_getR (show decode (zb m_Lift_goOnce) 1 = .ok (.getfield 28, 3) from by decide +kernel) rfl rfl h1 h2).trans ?_
  refine (r_getI (show decode (zb m_Lift_goOnce) 4 = .ok (.getfield 43, 3) from by decide +kernel) rfl rfl h3).trans ?_
  exact r_if_ne 12 (show decode (zb m_Lift_goOnce) 7 = .ok (.ifCond .ne (5), 3) from by decide +kernel) rfl
theorem b_Lift_goOnce_10 {C : CF} {d : Nat} {σ : HP} {l0 : Option Value} {l1 : Option Value}  : runF C d m_Lift_goOnce (10, [l0, l1], [], σ) = some (.inl (some (.int (0 : Int32))), σ) := by
  refine (r_iconst (v := (0 : Int32)) (show decode (zb m_Lift_goOnce) 10 = .ok (.iconst (0), 1) from by decide +kernel) (by decide)).trans ?_
  exact r_bret (show decode (zb m_Lift_goOnce) 11 = .ok (.ireturn, 1) from by decide +kernel) rfl (by decide)
theorem b_Lift_goOnce_12 {C : CF} {d : Nat} {σ : HP} {a0 : Nat} {l1 : Option Value} (h1 : a0 % 64 = 5) (h2 : (gR σ a0 2).isSome = true) (h3 : (dr (gR σ a0 2)) % 64 = 1) : runF C d m_Lift_goOnce (12, [some (.ref a0), l1], [], σ) = bk C d m_Lift_goOnce 25 [some (.ref a0), l1] [.int (gI σ (dr (gR σ a0 2)) 1), .ref a0, .ref (dr (gR σ a0 2))] (C m_Lift_loadNow [.ref a0] σ) := by
  refine (r_aloadn 0 (show decode (zb m_Lift_goOnce) 12 = .ok (.aload_n 0, 1) from by decide +kernel) rfl).trans ?_
  refine (r_getR (show decode (zb m_Lift_goOnce) 13 = .ok (.getfield 28, 3) from by decide +kernel) rfl rfl h1 h2).trans ?_
  refine (r_aloadn 0 (show decode (zb m_Lift_goOnce) 16 = .ok (.aload_n 0, 1) from by decide +kernel) rfl).trans ?_
  refine (r_aloadn 0 (show decode (zb m_Lift_goOnce) 17 = .ok (.aload_n 0, 1) from by decide +kernel) rfl).trans ?_
  refine (r_getR (show decode (zb m_Lift_goOnce) 18 = .ok (.getfield 28, 3) from by decide +kernel) rfl rfl h1 h2).trans ?_
  refine (r_getI (show decode (zb m_Lift_goOnce) 21 = .ok (.getfield 55, 3) from by decide +kernel) rfl rfl h3).trans ?_
  refine (r_aloadn 0 (show decode (zb m_Lift_goOnce) 24 = .ok (.aload_n 0, 1) from by decide +kernel) rfl).trans ?_
  exact r_virt (args := []) (rest := [.int (gI σ (dr (gR σ a0 2)) 1), .ref a0, .ref (dr (gR σ a0 2))]) (show decode (zb m_Lift_goOnce) 25 = .ok (.invokevirtual 148, 3) from by decide +kernel) rfl rfl rfl h1
theorem b_Lift_goOnce_28 {C : CF} {d : Nat} {σ : HP} {s0 : Int32} {s1 : Int32} {r2 : Nat} {r3 : Nat} {l0 : Option Value} {l1 : Option Value} (h1 : r2 % 64 = 5) : runF C d m_Lift_goOnce (28, [l0, l1], [.int s0, .int s1, .ref r2, .ref r3], σ) = bk C d m_Lift_goOnce 28 [l0, l1] [.ref r3] (C m_Lift_goesFrom [.ref r2, .int s1, .int s0] σ) := by
  exact r_virt (args := [.int s1, .int s0]) (rest := [.ref r3]) (show decode (zb m_Lift_goOnce) 28 = .ok (.invokevirtual 145, 3) from by decide +kernel) rfl rfl rfl h1
theorem b_Lift_goOnce_31 {C : CF} {d : Nat} {σ : HP} {s0 : Int32} {r1 : Nat} {l0 : Option Value} {l1 : Option Value} (h1 : r1 % 64 = 1) : runF C d m_Lift_goOnce (31, [l0, l1], [.int s0, .ref r1], σ) = runF C d m_Lift_goOnce (36, [l0, some (.int ((0 : Int32)))], [], wI σ r1 1 s0) := by
  refine (r_putI (show decode (zb m_Lift_goOnce) 31 = .ok (.putfield 55, 3) from by decide +kernel) rfl rfl rfl h1).trans ?_
  refine (r_iconst (v := (0 : Int32)) (show decode (zb m_Lift_goOnce) 34 = .ok (.iconst (0), 1) from by decide +kernel) (by decide)).trans ?_
  exact r_istoren 1 (show decode (zb m_Lift_goOnce) 35 = .ok (.istore_n 1, 1) from by decide +kernel) rfl
theorem b_Lift_goOnce_36 {C : CF} {d : Nat} {σ : HP} {x1 : Int32} {a0 : Nat} (h1 : a0 % 64 = 5) (h2 : (gR σ a0 0).isSome = true) (h3 : (dr (gR σ a0 0)) % 64 = 2) : runF C d m_Lift_goOnce (36, [some (.ref a0), some (.int x1)], [], σ) = if (gI σ (dr (gR σ a0 0)) 1) ≤ x1 then runF C d m_Lift_goOnce (85, [some (.ref a0), some (.int x1)], [], σ) else runF C d m_Lift_goOnce (47, [some (.ref a0), some (.int x1)], [], σ) := by
  refine (r_iloadn 1 (show decode (zb m_Lift_goOnce) 36 = .ok (.iload_n 1, 1) from by decide +kernel) rfl).trans ?_
  refine (r_aloadn 0 (show decode (zb m_Lift_goOnce) 37 = .ok (.aload_n 0, 1) from by decide +kernel) rfl).trans ?_
  refine (r_getR (show decode (zb m_Lift_goOnce) 38 = .ok (.getfield 12, 3) from by decide +kernel) rfl rfl h1 h2).trans ?_
  refine (r_getI (show decode (zb m_Lift_goOnce) 41 = .ok (.getfield 72, 3) from by decide +kernel) rfl rfl h3).trans ?_
  exact r_icmp_ge 85 (show decode (zb m_Lift_goOnce) 44 = .ok (.if_icmp .ge (41), 3) from by decide +kernel) rfl
theorem b_Lift_goOnce_47 {C : CF} {d : Nat} {σ : HP} {a0 : Nat} {x1 : Int32} (h1 : a0 % 64 = 5) : runF C d m_Lift_goOnce (47, [some (.ref a0), some (.int x1)], [], σ) = bk C d m_Lift_goOnce 49 [some (.ref a0), some (.int x1)] [] (C m_Lift_isInside [.ref a0, .int x1] σ) := by
  refine (r_aloadn 0 (show decode (zb m_Lift_goOnce) 47 = .ok (.aload_n 0, 1) from by decide +kernel) rfl).trans ?_
  refine (r_iloadn 1 (show decode (zb m_Lift_goOnce) 48 = .ok (.iload_n 1, 1) from by decide +kernel) rfl).trans ?_
  exact r_virt (args := [.int x1]) (rest := []) (show decode (zb m_Lift_goOnce) 49 = .ok (.invokevirtual 51, 3) from by decide +kernel) rfl rfl rfl h1
theorem b_Lift_goOnce_52 {C : CF} {d : Nat} {σ : HP} {s0 : Int32} {l0 : Option Value} {l1 : Option Value}  : runF C d m_Lift_goOnce (52, [l0, l1], [.int s0], σ) = if s0 = 0 then runF C d m_Lift_goOnce (79, [l0, l1], [], σ) else runF C d m_Lift_goOnce (55, [l0, l1], [], σ) := by
  exact r_if_eq 79 (show decode (zb m_Lift_goOnce) 52 = .ok (.ifCond .eq (27), 3) from by decide +kernel) rfl
theorem b_Lift_goOnce_55 {C : CF} {d : Nat} {σ : HP} {a0 : Nat} {x1 : Int32} (h1 : a0 % 64 = 5) (h2 : (gR σ a0 2).isSome = true) (h3 : (dr (gR σ a0 2)) % 64 = 1) (h4 : (gR σ (dr (gR σ a0 2)) 6).isSome = true) : runF C d m_Lift_goOnce (55, [some (.ref a0), some (.int x1)], [], σ) = bkN C d m_Lift_goOnce 71 [some (.ref a0), some (.int x1)] [.int x1, .ref (dr (gR σ (dr (gR σ a0 2)) 6))] (C m_PL_at [.ref (dr (gR σ (dr (gR σ a0 2)) 6)), .int x1] σ) := by
  refine (r_aloadn 0 (show decode (zb m_Lift_goOnce) 55 = .ok (.aload_n 0, 1) from by decide +kernel) rfl).trans ?_
  refine (r_getR (show decode (zb m_Lift_goOnce) 56 = .ok (.getfield 28, 3) from by decide +kernel) rfl rfl h1 h2).trans ?_
  refine (r_getR (show decode (zb m_Lift_goOnce) 59 = .ok (.getfield 86, 3) from by decide +kernel) rfl rfl h3 h4).trans ?_
  refine (r_iloadn 1 (show decode (zb m_Lift_goOnce) 62 = .ok (.iload_n 1, 1) from by decide +kernel) rfl).trans ?_
  refine (r_aloadn 0 (show decode (zb m_Lift_goOnce) 63 = .ok (.aload_n 0, 1) from by decide +kernel) rfl).trans ?_
  refine (r_getR (show decode (zb m_Lift_goOnce) 64 = .ok (.getfield 28, 3) from by decide +kernel) rfl rfl h1 h2).trans ?_
  refine (r_getR (show decode (zb m_Lift_goOnce) 67 = .ok (.getfield 86, 3) from by decide +kernel) rfl rfl h3 h4).trans ?_
  refine (r_iloadn 1 (show decode (zb m_Lift_goOnce) 70 = .ok (.iload_n 1, 1) from by decide +kernel) rfl).trans ?_
  exact r_stat (args := [.ref (dr (gR σ (dr (gR σ a0 2)) 6)), .int x1]) (rest := [.int x1, .ref (dr (gR σ (dr (gR σ a0 2)) 6))]) (show decode (zb m_Lift_goOnce) 71 = .ok (.invokestatic 62, 3) from by decide +kernel) rfl (by decide) rfl rfl
theorem b_Lift_goOnce_74 {C : CF} {d : Nat} {σ : HP} {s0 : Int32} {s1 : Int32} {r2 : Nat} {l0 : Option Value} {l1 : Option Value}  : runF C d m_Lift_goOnce (74, [l0, l1], [.int s0, .int s1, .ref r2], σ) = bkN C d m_Lift_goOnce 76 [l0, l1] [] (C m_PL_put [.ref r2, .int s1, .int (s0 + (1 : Int32))] σ) := by
  refine (r_iconst (v := (1 : Int32)) (show decode (zb m_Lift_goOnce) 74 = .ok (.iconst (1), 1) from by decide +kernel) (by decide)).trans ?_
  refine (r_iadd (show decode (zb m_Lift_goOnce) 75 = .ok (.iadd, 1) from by decide +kernel)).trans ?_
  exact r_stat (args := [.ref r2, .int s1, .int (s0 + (1 : Int32))]) (rest := []) (show decode (zb m_Lift_goOnce) 76 = .ok (.invokestatic 162, 3) from by decide +kernel) rfl (by decide) rfl rfl
theorem b_Lift_goOnce_79 {C : CF} {d : Nat} {σ : HP} {x1 : Int32} {l0 : Option Value}  : runF C d m_Lift_goOnce (79, [l0, some (.int x1)], [], σ) = runF C d m_Lift_goOnce (36, [l0, some (.int (x1 + (1 : Int32)))], [], σ) := by
  refine (r_iinc 1 (v := (1 : Int32)) (show decode (zb m_Lift_goOnce) 79 = .ok (.iinc 1 (1), 3) from by decide +kernel) rfl rfl (by decide)).trans ?_
  exact r_goto 36 (show decode (zb m_Lift_goOnce) 82 = .ok (.goto (-46), 3) from by decide +kernel) rfl
theorem b_Lift_goOnce_85 {C : CF} {d : Nat} {σ : HP} {l0 : Option Value} {l1 : Option Value}  : runF C d m_Lift_goOnce (85, [l0, l1], [], σ) = some (.inl (some (.int (1 : Int32))), σ) := by
  refine (r_iconst (v := (1 : Int32)) (show decode (zb m_Lift_goOnce) 85 = .ok (.iconst (1), 1) from by decide +kernel) (by decide)).trans ?_
  exact r_bret (show decode (zb m_Lift_goOnce) 86 = .ok (.ireturn, 1) from by decide +kernel) rfl (by decide)
theorem e_Lift_goesFrom {d : Nat} {σ : HP} {a0 : Nat} {x1 : Int32} {x2 : Int32} : callF (d + 1) m_Lift_goesFrom [.ref a0, .int x1, .int x2] σ = runF (callF d) d m_Lift_goesFrom (0, [some (.ref a0), some (.int x1), some (.int x2), none, none], [], σ) := callF_in rfl rfl
theorem b_Lift_goesFrom_0 {C : CF} {d : Nat} {σ : HP} {x2 : Int32} {a0 : Nat} {l1 : Option Value} {l3 : Option Value} {l4 : Option Value} (h1 : a0 % 64 = 5) (h2 : (gR σ a0 0).isSome = true) (h3 : (dr (gR σ a0 0)) % 64 = 2) : runF C d m_Lift_goesFrom (0, [some (.ref a0), l1, some (.int x2), l3, l4], [], σ) = if ¬ (x2 - (gI σ (dr (gR σ a0 0)) 3)) = 0 then runF C d m_Lift_goesFrom (16, [some (.ref a0), l1, some (.int x2), some (.int (x2 - (gI σ (dr (gR σ a0 0)) 3))), l4], [], σ) else runF C d m_Lift_goesFrom (14, [some (.ref a0), l1, some (.int x2), some (.int (x2 - (gI σ (dr (gR σ a0 0)) 3))), l4], [], σ) := by
  refine (r_iloadn 2 (show decode (zb m_Lift_goesFrom) 0 = .ok (.iload_n 2, 1) from by decide +kernel) rfl).trans ?_
  refine (r_aloadn 0 (show decode (zb m_Lift_goesFrom) 1 = .ok (.aload_n 0, 1) from by decide +kernel) rfl).trans ?_
  refine (r_getR (show decode (zb m_Lift_goesFrom) 2 = .ok (.getfield 12, 3) from by decide +kernel) rfl rfl h1 h2).trans ?_
  refine (r_getI (show decode (zb m_Lift_goesFrom) 5 = .ok (.getfield 133, 3) from by decide +kernel) rfl rfl h3).trans ?_
  refine (r_isub (show decode (zb m_Lift_goesFrom) 8 = .ok (.isub, 1) from by decide +kernel)).trans ?_
  refine (r_istoren 3 (show decode (zb m_Lift_goesFrom) 9 = .ok (.istore_n 3, 1) from by decide +kernel) rfl).trans ?_
  refine (r_iloadn 3 (show decode (zb m_Lift_goesFrom) 10 = .ok (.iload_n 3, 1) from by decide +kernel) rfl).trans ?_
  exact r_if_ne 16 (show decode (zb m_Lift_goesFrom) 11 = .ok (.ifCond .ne (5), 3) from by decide +kernel) rfl
theorem b_Lift_goesFrom_14 {C : CF} {d : Nat} {σ : HP} {x1 : Int32} {l0 : Option Value} {l2 : Option Value} {l3 : Option Value} {l4 : Option Value}  : runF C d m_Lift_goesFrom (14, [l0, some (.int x1), l2, l3, l4], [], σ) = some (.inl (some (.int x1)), σ) := by
  refine (r_iloadn 1 (show decode (zb m_Lift_goesFrom) 14 = .ok (.iload_n 1, 1) from by decide +kernel) rfl).trans ?_
  exact r_iret (show decode (zb m_Lift_goesFrom) 15 = .ok (.ireturn, 1) from by decide +kernel) rfl rfl
theorem b_Lift_goesFrom_16 {C : CF} {d : Nat} {σ : HP} {x3 : Int32} {l0 : Option Value} {l1 : Option Value} {l2 : Option Value} {l4 : Option Value}  : runF C d m_Lift_goesFrom (16, [l0, l1, l2, some (.int x3), l4], [], σ) = if x3 ≤ 0 then runF C d m_Lift_goesFrom (50, [l0, l1, l2, some (.int x3), some (.int (((p_abs x3) / (10 : Int32)) + (1 : Int32)))], [], σ) else runF C d m_Lift_goesFrom (31, [l0, l1, l2, some (.int x3), some (.int (((p_abs x3) / (10 : Int32)) + (1 : Int32)))], [], σ) := by
  refine (r_iloadn 3 (show decode (zb m_Lift_goesFrom) 16 = .ok (.iload_n 3, 1) from by decide +kernel) rfl).trans ?_
  refine (r_abs (show decode (zb m_Lift_goesFrom) 17 = .ok (.invokestatic 136, 3) from by decide +kernel) rfl rfl).trans ?_
  refine (r_bipush (v := (10 : Int32)) (show decode (zb m_Lift_goesFrom) 20 = .ok (.bipush (10), 2) from by decide +kernel) (by decide)).trans ?_
  refine (r_idiv (show decode (zb m_Lift_goesFrom) 22 = .ok (.idiv, 1) from by decide +kernel) (by decide)).trans ?_
  refine (r_iconst (v := (1 : Int32)) (show decode (zb m_Lift_goesFrom) 23 = .ok (.iconst (1), 1) from by decide +kernel) (by decide)).trans ?_
  refine (r_iadd (show decode (zb m_Lift_goesFrom) 24 = .ok (.iadd, 1) from by decide +kernel)).trans ?_
  refine (r_istore 4 (show decode (zb m_Lift_goesFrom) 25 = .ok (.istore 4, 2) from by decide +kernel) rfl).trans ?_
  refine (r_iloadn 3 (show decode (zb m_Lift_goesFrom) 27 = .ok (.iload_n 3, 1) from by decide +kernel) rfl).trans ?_
  exact r_if_le 50 (show decode (zb m_Lift_goesFrom) 28 = .ok (.ifCond .le (22), 3) from by decide +kernel) rfl
theorem b_Lift_goesFrom_31 {C : CF} {d : Nat} {σ : HP} {a0 : Nat} {x1 : Int32} {x4 : Int32} {l2 : Option Value} {l3 : Option Value} (h1 : a0 % 64 = 5) (h2 : (gR σ a0 0).isSome = true) (h3 : (dr (gR σ a0 0)) % 64 = 2) : runF C d m_Lift_goesFrom (31, [some (.ref a0), some (.int x1), l2, l3, some (.int x4)], [], σ) = runF C d m_Lift_goesFrom (58, [some (.ref a0), some (.int x1), l2, l3, some (.int x4)], [.int (p_min ((gI σ (dr (gR σ a0 0)) 0) - (1 : Int32)) (x1 + x4))], σ) := by
  refine (r_aloadn 0 (show decode (zb m_Lift_goesFrom) 31 = .ok (.aload_n 0, 1) from by decide +kernel) rfl).trans ?_
  refine (r_getR (show decode (zb m_Lift_goesFrom) 32 = .ok (.getfield 12, 3) from by decide +kernel) rfl rfl h1 h2).trans ?_
  refine (r_getI (show decode (zb m_Lift_goesFrom) 35 = .ok (.getfield 139, 3) from by decide +kernel) rfl rfl h3).trans ?_
  refine (r_iconst (v := (1 : Int32)) (show decode (zb m_Lift_goesFrom) 38 = .ok (.iconst (1), 1) from by decide +kernel) (by decide)).trans ?_
  refine (r_isub (show decode (zb m_Lift_goesFrom) 39 = .ok (.isub, 1) from by decide +kernel)).trans ?_
  refine (r_iloadn 1 (show decode (zb m_Lift_goesFrom) 40 = .ok (.iload_n 1, 1) from by decide +kernel) rfl).trans ?_
  refine (r_iload 4 (show decode (zb m_Lift_goesFrom) 41 = .ok (.iload 4, 2) from by decide +kernel) rfl).trans ?_
  refine (r_iadd (show decode (zb m_Lift_goesFrom) 43 = .ok (.iadd, 1) from by decide +kernel)).trans ?_
  refine (r_min (show decode (zb m_Lift_goesFrom) 44 = .ok (.invokestatic 128, 3) from by decide +kernel) rfl rfl).trans ?_
  exact r_goto 58 (show decode (zb m_Lift_goesFrom) 47 = .ok (.goto (11), 3) from by decide +kernel) rfl
theorem b_Lift_goesFrom_50 {C : CF} {d : Nat} {σ : HP} {x1 : Int32} {x4 : Int32} {l0 : Option Value} {l2 : Option Value} {l3 : Option Value}  : runF C d m_Lift_goesFrom (50, [l0, some (.int x1), l2, l3, some (.int x4)], [], σ) = runF C d m_Lift_goesFrom (58, [l0, some (.int x1), l2, l3, some (.int x4)], [.int (p_max (0 : Int32) (x1 - x4))], σ) := by
  refine (r_iconst (v := (0 : Int32)) (show decode (zb m_Lift_goesFrom) 50 = .ok (.iconst (0), 1) from by decide +kernel) (by decide)).trans ?_
  refine (r_iloadn 1 (show decode (zb m_Lift_goesFrom) 51 = .ok (.iload_n 1, 1) from by decide +kernel) rfl).trans ?_
  refine (r_iload 4 (show decode (zb m_Lift_goesFrom) 52 = .ok (.iload 4, 2) from by decide +kernel) rfl).trans ?_
  refine (r_isub (show decode (zb m_Lift_goesFrom) 54 = .ok (.isub, 1) from by decide +kernel)).trans ?_
  exact r_max (show decode (zb m_Lift_goesFrom) 55 = .ok (.invokestatic 142, 3) from by decide +kernel) rfl rfl
theorem b_Lift_goesFrom_58 {C : CF} {d : Nat} {σ : HP} {s0 : Int32} {l0 : Option Value} {l1 : Option Value} {l2 : Option Value} {l3 : Option Value} {l4 : Option Value}  : runF C d m_Lift_goesFrom (58, [l0, l1, l2, l3, l4], [.int s0], σ) = some (.inl (some (.int s0)), σ) := by
  exact r_iret (show decode (zb m_Lift_goesFrom) 58 = .ok (.ireturn, 1) from by decide +kernel) rfl rfl
theorem e_Lift_walkTo {d : Nat} {σ : HP} {a0 : Nat} {x1 : Int32} {x2 : Int32} : callF (d + 1) m_Lift_walkTo [.ref a0, .int x1, .int x2] σ = runF (callF d) d m_Lift_walkTo (0, [some (.ref a0), some (.int x1), some (.int x2)], [], σ) := callF_in rfl rfl
theorem b_Lift_walkTo_0 {C : CF} {d : Nat} {σ : HP} {a0 : Nat} {x1 : Int32} {l2 : Option Value} (h1 : a0 % 64 = 5) : runF C d m_Lift_walkTo (0, [some (.ref a0), some (.int x1), l2], [], σ) = bk C d m_Lift_walkTo 2 [some (.ref a0), some (.int x1), l2] [] (C m_Lift_isInside [.ref a0, .int x1] σ) := by
  refine (r_aloadn 0 (show decode (zb m_Lift_walkTo) 0 = .ok (.aload_n 0, 1) from by decide +kernel) rfl).trans ?_
  refine (r_iloadn 1 (show decode (zb m_Lift_walkTo) 1 = .ok (.iload_n 1, 1) from by decide +kernel) rfl).trans ?_
  exact r_virt (args := [.int x1]) (rest := []) (show decode (zb m_Lift_walkTo) 2 = .ok (.invokevirtual 51, 3) from by decide +kernel) rfl rfl rfl h1
theorem b_Lift_walkTo_5 {C : CF} {d : Nat} {σ : HP} {s0 : Int32} {l0 : Option Value} {l1 : Option Value} {l2 : Option Value}  : runF C d m_Lift_walkTo (5, [l0, l1, l2], [.int s0], σ) = if ¬ s0 = 0 then runF C d m_Lift_walkTo (23, [l0, l1, l2], [], σ) else runF C d m_Lift_walkTo (8, [l0, l1, l2], [], σ) := by
  exact r_if_ne 23 (show decode (zb m_Lift_walkTo) 5 = .ok (.ifCond .ne (18), 3) from by decide +kernel) rfl
theorem b_Lift_walkTo_8 {C : CF} {d : Nat} {σ : HP} {a0 : Nat} {x1 : Int32} {l2 : Option Value} (h1 : a0 % 64 = 5) (h2 : (gR σ a0 2).isSome = true) (h3 : (dr (gR σ a0 2)) % 64 = 1) (h4 : (gR σ (dr (gR σ a0 2)) 4).isSome = true) : runF C d m_Lift_walkTo (8, [some (.ref a0), some (.int x1), l2], [], σ) = bkN C d m_Lift_walkTo 16 [some (.ref a0), some (.int x1), l2] [] (C m_PL_at [.ref (dr (gR σ (dr (gR σ a0 2)) 4)), .int x1] σ) := by
  refine (r_aloadn 0 (show decode (zb m_Lift_walkTo) 8 = .ok (.aload_n 0, 1) from by decide +kernel) rfl).trans ?_
  refine (r_getR (show decode (zb m_Lift_walkTo) 9 = .ok (.getfield 28, 3) from by decide +kernel) rfl rfl h1 h2).trans ?_
  refine (r_getR (show decode (zb m_Lift_walkTo) 12 = .ok (.getfield 58, 3) from by decide +kernel) rfl rfl h3 h4).trans ?_
  refine (r_iloadn 1 (show decode (zb m_Lift_walkTo) 15 = .ok (.iload_n 1, 1) from by decide +kernel) rfl).trans ?_
  exact r_stat (args := [.ref (dr (gR σ (dr (gR σ a0 2)) 4)), .int x1]) (rest := []) (show decode (zb m_Lift_walkTo) 16 = .ok (.invokestatic 62, 3) from by decide +kernel) rfl (by decide) rfl rfl
theorem b_Lift_walkTo_19 {C : CF} {d : Nat} {σ : HP} {s0 : Int32} {x2 : Int32} {l0 : Option Value} {l1 : Option Value}  : runF C d m_Lift_walkTo (19, [l0, l1, some (.int x2)], [.int s0], σ) = if ¬ s0 = x2 then runF C d m_Lift_walkTo (25, [l0, l1, some (.int x2)], [], σ) else runF C d m_Lift_walkTo (23, [l0, l1, some (.int x2)], [], σ) := by
  refine (r_iloadn 2 (show decode (zb m_Lift_walkTo) 19 = .ok (.iload_n 2, 1) from by decide +kernel) rfl).trans ?_
  exact r_icmp_ne 25 (show decode (zb m_Lift_walkTo) 20 = .ok (.if_icmp .ne (5), 3) from by decide +kernel) rfl
theorem b_Lift_walkTo_23 {C : CF} {d : Nat} {σ : HP} {l0 : Option Value} {l1 : Option Value} {l2 : Option Value}  : runF C d m_Lift_walkTo (23, [l0, l1, l2], [], σ) = some (.inl (some (.int (0 : Int32))), σ) := by
  refine (r_iconst (v := (0 : Int32)) (show decode (zb m_Lift_walkTo) 23 = .ok (.iconst (0), 1) from by decide +kernel) (by decide)).trans ?_
  exact r_bret (show decode (zb m_Lift_walkTo) 24 = .ok (.ireturn, 1) from by decide +kernel) rfl (by decide)
theorem b_Lift_walkTo_25 {C : CF} {d : Nat} {σ : HP} {a0 : Nat} {x1 : Int32} {x2 : Int32} (h1 : a0 % 64 = 5) (h2 : (gR σ a0 2).isSome = true) (h3 : (dr (gR σ a0 2)) % 64 = 1) (h4 : (gR σ (dr (gR σ a0 2)) 4).isSome = true) : runF C d m_Lift_walkTo (25, [some (.ref a0), some (.int x1), some (.int x2)], [], σ) = bkN C d m_Lift_walkTo 34 [some (.ref a0), some (.int x1), some (.int x2)] [] (C m_PL_put [.ref (dr (gR σ (dr (gR σ a0 2)) 4)), .int x1, .int x2] σ) := by
  refine (r_aloadn 0 (show decode (zb m_Lift_walkTo) 25 = .ok (.aload_n 0, 1) from by decide +kernel) rfl).trans ?_
  refine (r_getR (show decode (zb m_Lift_walkTo) 26 = .ok (.getfield 28, 3) from by decide +kernel) rfl rfl h1 h2).trans ?_
  refine (r_getR (show decode (zb m_Lift_walkTo) 29 = .ok (.getfield 58, 3) from by decide +kernel) rfl rfl h3 h4).trans ?_
  refine (r_iloadn 1 (show decode (zb m_Lift_walkTo) 32 = .ok (.iload_n 1, 1) from by decide +kernel) rfl).trans ?_
  refine (r_iloadn 2 (show decode (zb m_Lift_walkTo) 33 = .ok (.iload_n 2, 1) from by decide +kernel) rfl).trans ?_
  exact r_stat (args := [.ref (dr (gR σ (dr (gR σ a0 2)) 4)), .int x1, .int x2]) (rest := []) (show decode (zb m_Lift_walkTo) 34 = .ok (.invokestatic 162, 3) from by decide +kernel) rfl (by decide) rfl rfl
theorem b_Lift_walkTo_37 {C : CF} {d : Nat} {σ : HP} {l0 : Option Value} {l1 : Option Value} {l2 : Option Value}  : runF C d m_Lift_walkTo (37, [l0, l1, l2], [], σ) = some (.inl (some (.int (1 : Int32))), σ) := by
  refine (r_iconst (v := (1 : Int32)) (show decode (zb m_Lift_walkTo) 37 = .ok (.iconst (1), 1) from by decide +kernel) (by decide)).trans ?_
  exact r_bret (show decode (zb m_Lift_walkTo) 38 = .ok (.ireturn, 1) from by decide +kernel) rfl (by decide)
theorem e_Lift_nightFalls {d : Nat} {σ : HP} {a0 : Nat} : callF (d + 1) m_Lift_nightFalls [.ref a0] σ = runF (callF d) d m_Lift_nightFalls (0, [some (.ref a0)], [], σ) := callF_in rfl rfl
theorem b_Lift_nightFalls_0 {C : CF} {d : Nat} {σ : HP} {a0 : Nat} (h1 : a0 % 64 = 5) (h2 : (gR σ a0 2).isSome = true) (h3 : (dr (gR σ a0 2)) % 64 = 1) : runF C d m_Lift_nightFalls (0, [some (.ref a0)], [], σ) = if (gI σ (dr (gR σ a0 2)) 0) < (400 : Int32) then runF C d m_Lift_nightFalls (15, [some (.ref a0)], [], σ) else runF C d m_Lift_nightFalls (13, [some (.ref a0)], [], σ) := by
  refine (r_aloadn 0 (show decode (zb m_Lift_nightFalls) 0 = .ok (.aload_n 0, 1) from by decide +kernel) rfl).trans ?_
  refine (r_getR (show decode (zb m_Lift_nightFalls) 1 = .ok (.getfield 28, 3) from by decide +kernel) rfl rfl h1 h2).trans ?_
  refine (r_getI (show decode (zb m_Lift_nightFalls) 4 = .ok (.getfield 173, 3) from by decide +kernel) rfl rfl h3).trans ?_
  refine (r_sipush (v := (400 : Int32)) (show decode (zb m_Lift_nightFalls) 7 = .ok (.sipush (400), 3) from by decide +kernel) (by decide)).trans ?_
  exact r_icmp_lt 15 (show decode (zb m_Lift_nightFalls) 10 = .ok (.if_icmp .lt (5), 3) from by decide +kernel) rfl
theorem b_Lift_nightFalls_13 {C : CF} {d : Nat} {σ : HP} {l0 : Option Value}  : runF C d m_Lift_nightFalls (13, [l0], [], σ) = some (.inl (some (.int (0 : Int32))), σ) := by
  refine (r_iconst (v := (0 : Int32)) (show decode (zb m_Lift_nightFalls) 13 = .ok (.iconst (0), 1) from by decide +kernel) (by decide)).trans ?_
  exact r_bret (show decode (zb m_Lift_nightFalls) 14 = .ok (.ireturn, 1) from by decide +kernel) rfl (by decide)
theorem b_Lift_nightFalls_15 {C : CF} {d : Nat} {σ : HP} {a0 : Nat} (h1 : a0 % 64 = 5) : runF C d m_Lift_nightFalls (15, [some (.ref a0)], [], σ) = bk C d m_Lift_nightFalls 16 [some (.ref a0)] [] (C m_Lift_sleep [.ref a0] σ) := by
  refine (r_aloadn 0 (show decode (zb m_Lift_nightFalls) 15 = .ok (.aload_n 0, 1) from by decide +kernel) rfl).trans ?_
  exact r_virt (args := []) (rest := []) (show decode (zb m_Lift_nightFalls) 16 = .ok (.invokevirtual 176, 3) from by decide +kernel) rfl rfl rfl h1
theorem b_Lift_nightFalls_19 {C : CF} {d : Nat} {σ : HP} {l0 : Option Value}  : runF C d m_Lift_nightFalls (19, [l0], [], σ) = some (.inl (some (.int (1 : Int32))), σ) := by
  refine (r_iconst (v := (1 : Int32)) (show decode (zb m_Lift_nightFalls) 19 = .ok (.iconst (1), 1) from by decide +kernel) (by decide)).trans ?_
  exact r_bret (show decode (zb m_Lift_nightFalls) 20 = .ok (.ireturn, 1) from by decide +kernel) rfl (by decide)
theorem e_Lift_sleep {d : Nat} {σ : HP} {a0 : Nat} : callF (d + 1) m_Lift_sleep [.ref a0] σ = runF (callF d) d m_Lift_sleep (0, [some (.ref a0), none], [], σ) := callF_in rfl rfl
theorem b_Lift_sleep_0 {C : CF} {d : Nat} {σ : HP} {a0 : Nat} {l1 : Option Value} (h1 : a0 % 64 = 5) : runF C d m_Lift_sleep (0, [some (.ref a0), l1], [], σ) = bk C d m_Lift_sleep 1 [some (.ref a0), l1] [] (C m_Lift_halvePrides [.ref a0] σ) := by
  refine (r_aloadn 0 (show decode (zb m_Lift_sleep) 0 = .ok (.aload_n 0, 1) from by decide +kernel) rfl).trans ?_
  exact r_virt (args := []) (rest := []) (show decode (zb m_Lift_sleep) 1 = .ok (.invokevirtual 179, 3) from by decide +kernel) rfl rfl rfl h1
theorem b_Lift_sleep_4 {C : CF} {d : Nat} {σ : HP} {l0 : Option Value} {l1 : Option Value}  : runF C d m_Lift_sleep (4, [l0, l1], [], σ) = runF C d m_Lift_sleep (6, [l0, some (.int ((0 : Int32)))], [], σ) := by
  refine (r_iconst (v := (0 : Int32)) (show decode (zb m_Lift_sleep) 4 = .ok (.iconst (0), 1) from by decide +kernel) (by decide)).trans ?_
  exact r_istoren 1 (show decode (zb m_Lift_sleep) 5 = .ok (.istore_n 1, 1) from by decide +kernel) rfl
theorem b_Lift_sleep_6 {C : CF} {d : Nat} {σ : HP} {x1 : Int32} {a0 : Nat} (h1 : a0 % 64 = 5) (h2 : (gR σ a0 0).isSome = true) (h3 : (dr (gR σ a0 0)) % 64 = 2) : runF C d m_Lift_sleep (6, [some (.ref a0), some (.int x1)], [], σ) = if (gI σ (dr (gR σ a0 0)) 1) ≤ x1 then runF C d m_Lift_sleep (29, [some (.ref a0), some (.int x1)], [], σ) else runF C d m_Lift_sleep (17, [some (.ref a0), some (.int x1)], [], σ) := by
  refine (r_iloadn 1 (show decode (zb m_Lift_sleep) 6 = .ok (.iload_n 1, 1) from by decide +kernel) rfl).trans ?_
  refine (r_aloadn 0 (show decode (zb m_Lift_sleep) 7 = .ok (.aload_n 0, 1) from by decide +kernel) rfl).trans ?_
  refine (r_getR (show decode (zb m_Lift_sleep) 8 = .ok (.getfield 12, 3) from by decide +kernel) rfl rfl h1 h2).trans ?_
  refine (r_getI (show decode (zb m_Lift_sleep) 11 = .ok (.getfield 72, 3) from by decide +kernel) rfl rfl h3).trans ?_
  exact r_icmp_ge 29 (show decode (zb m_Lift_sleep) 14 = .ok (.if_icmp .ge (15), 3) from by decide +kernel) rfl
theorem b_Lift_sleep_17 {C : CF} {d : Nat} {σ : HP} {a0 : Nat} {x1 : Int32} (h1 : a0 % 64 = 5) : runF C d m_Lift_sleep (17, [some (.ref a0), some (.int x1)], [], σ) = bk C d m_Lift_sleep 19 [some (.ref a0), some (.int x1)] [] (C m_Lift_letOut [.ref a0, .int x1] σ) := by
  refine (r_aloadn 0 (show decode (zb m_Lift_sleep) 17 = .ok (.aload_n 0, 1) from by decide +kernel) rfl).trans ?_
  refine (r_iloadn 1 (show decode (zb m_Lift_sleep) 18 = .ok (.iload_n 1, 1) from by decide +kernel) rfl).trans ?_
  exact r_virt (args := [.int x1]) (rest := []) (show decode (zb m_Lift_sleep) 19 = .ok (.invokevirtual 182, 3) from by decide +kernel) rfl rfl rfl h1
theorem b_Lift_sleep_22 {C : CF} {d : Nat} {σ : HP} {s0 : Int32} {x1 : Int32} {l0 : Option Value}  : runF C d m_Lift_sleep (22, [l0, some (.int x1)], [.int s0], σ) = runF C d m_Lift_sleep (6, [l0, some (.int (x1 + (1 : Int32)))], [], σ) := by
  refine (r_popI (show decode (zb m_Lift_sleep) 22 = .ok (.pop, 1) from by decide +kernel)).trans ?_
  refine (r_iinc 1 (v := (1 : Int32)) (show decode (zb m_Lift_sleep) 23 = .ok (.iinc 1 (1), 3) from by decide +kernel) rfl rfl (by decide)).trans ?_
  exact r_goto 6 (show decode (zb m_Lift_sleep) 26 = .ok (.goto (-20), 3) from by decide +kernel) rfl
theorem b_Lift_sleep_29 {C : CF} {d : Nat} {σ : HP} {a0 : Nat} {l1 : Option Value} (h1 : a0 % 64 = 5) (h2 : (gR σ a0 2).isSome = true) (h3 : (dr (gR σ a0 2)) % 64 = 1) (h4 : (gR σ (dr (gR σ a0 2)) 7).isSome = true) : runF C d m_Lift_sleep (29, [some (.ref a0), l1], [], σ) = bkN C d m_Lift_sleep 37 [some (.ref a0), l1] [] (C m_Arrays_fill [.ref (dr (gR σ (dr (gR σ a0 2)) 7)), .int ((0 : Int32))] σ) := by
  refine (r_aloadn 0 (show decode (zb m_Lift_sleep) 29 = .ok (.aload_n 0, 1) from by decide +kernel) rfl).trans ?_
  refine (r_getR (show decode (zb m_Lift_sleep) 30 = .ok (.getfield 28, 3) from by decide +kernel) rfl rfl h1 h2).trans ?_
  refine (r_getR (show decode (zb m_Lift_sleep) 33 = .ok (.getfield 185, 3) from by decide +kernel) rfl rfl h3 h4).trans ?_
  refine (r_iconst (v := (0 : Int32)) (show decode (zb m_Lift_sleep) 36 = .ok (.iconst (0), 1) from by decide +kernel) (by decide)).trans ?_
  exact r_stat (args := [.ref (dr (gR σ (dr (gR σ a0 2)) 7)), .int ((0 : Int32))]) (rest := []) (show decode (zb m_Lift_sleep) 37 = .ok (.invokestatic 188, 3) from by decide +kernel) rfl (by decide) rfl rfl
theorem b_Lift_sleep_40 {C : CF} {d : Nat} {σ : HP} {a0 : Nat} {l1 : Option Value} (h1 : a0 % 64 = 5) (h2 : (gR σ a0 2).isSome = true) (h3 : (dr (gR σ a0 2)) % 64 = 1) : runF C d m_Lift_sleep (40, [some (.ref a0), l1], [], σ) = some (.inl none, wI σ (dr (gR σ a0 2)) 0 ((gI σ (dr (gR σ a0 2)) 0) + (1 : Int32))) := by
  refine (r_aloadn 0 (show decode (zb m_Lift_sleep) 40 = .ok (.aload_n 0, 1) from by decide +kernel) rfl).trans ?_
  refine (r_getR (show decode (zb m_Lift_sleep) 41 = .ok (.getfield 28, 3) from by decide +kernel) rfl rfl h1 h2).trans ?_
  refine (r_dupR (show decode (zb m_Lift_sleep) 44 = .ok (.dup, 1) from by decide +kernel)).trans ?_
  refine (r_getI (show decode (zb m_Lift_sleep) 45 = .ok (.getfield 173, 3) from by decide +kernel) rfl rfl h3).trans ?_
  refine (r_iconst (v := (1 : Int32)) (show decode (zb m_Lift_sleep) 48 = .ok (.iconst (1), 1) from by decide +kernel) (by decide)).trans ?_
  refine (r_iadd (show decode (zb m_Lift_sleep) 49 = .ok (.iadd, 1) from by decide +kernel)).trans ?_
  refine (r_putI (show decode (zb m_Lift_sleep) 50 = .ok (.putfield 173, 3) from by decide +kernel) rfl rfl rfl h3).trans ?_
  exact r_vret (show decode (zb m_Lift_sleep) 53 = .ok (.return_, 1) from by decide +kernel) rfl
theorem e_Lift_halvePrides {d : Nat} {σ : HP} {a0 : Nat} : callF (d + 1) m_Lift_halvePrides [.ref a0] σ = runF (callF d) d m_Lift_halvePrides (0, [some (.ref a0), none], [], σ) := callF_in rfl rfl
theorem b_Lift_halvePrides_0 {C : CF} {d : Nat} {σ : HP} {l0 : Option Value} {l1 : Option Value}  : runF C d m_Lift_halvePrides (0, [l0, l1], [], σ) = runF C d m_Lift_halvePrides (2, [l0, some (.int ((0 : Int32)))], [], σ) := by
  refine (r_iconst (v := (0 : Int32)) (show decode (zb m_Lift_halvePrides) 0 = .ok (.iconst (0), 1) from by decide +kernel) (by decide)).trans ?_
  exact r_istoren 1 (show decode (zb m_Lift_halvePrides) 1 = .ok (.istore_n 1, 1) from by decide +kernel) rfl
theorem b_Lift_halvePrides_2 {C : CF} {d : Nat} {σ : HP} {x1 : Int32} {a0 : Nat} (h1 : a0 % 64 = 5) (h2 : (gR σ a0 0).isSome = true) (h3 : (dr (gR σ a0 0)) % 64 = 2) : runF C d m_Lift_halvePrides (2, [some (.ref a0), some (.int x1)], [], σ) = if (gI σ (dr (gR σ a0 0)) 1) ≤ x1 then runF C d m_Lift_halvePrides (43, [some (.ref a0), some (.int x1)], [], σ) else runF C d m_Lift_halvePrides (13, [some (.ref a0), some (.int x1)], [], σ) := by
  refine (r_iloadn 1 (show decode (zb m_Lift_halvePrides) 2 = .ok (.iload_n 1, 1) from by decide +kernel) rfl).trans ?_
  refine (r_aloadn 0 (show decode (zb m_Lift_halvePrides) 3 = .ok (.aload_n 0, 1) from by decide +kernel) rfl).trans ?_
  refine (r_getR (show decode (zb m_Lift_halvePrides) 4 = .ok (.getfield 12, 3) from by decide +kernel) rfl rfl h1 h2).trans ?_
  refine (r_getI (show decode (zb m_Lift_halvePrides) 7 = .ok (.getfield 72, 3) from by decide +kernel) rfl rfl h3).trans ?_
  exact r_icmp_ge 43 (show decode (zb m_Lift_halvePrides) 10 = .ok (.if_icmp .ge (33), 3) from by decide +kernel) rfl
theorem b_Lift_halvePrides_13 {C : CF} {d : Nat} {σ : HP} {a0 : Nat} {x1 : Int32} (h1 : a0 % 64 = 5) (h2 : (gR σ a0 2).isSome = true) (h3 : (dr (gR σ a0 2)) % 64 = 1) (h4 : (gR σ (dr (gR σ a0 2)) 5).isSome = true) : runF C d m_Lift_halvePrides (13, [some (.ref a0), some (.int x1)], [], σ) = bkN C d m_Lift_halvePrides 29 [some (.ref a0), some (.int x1)] [.int x1, .ref (dr (gR σ (dr (gR σ a0 2)) 5))] (C m_PL_at [.ref (dr (gR σ (dr (gR σ a0 2)) 5)), .int x1] σ) := by
  refine (r_aloadn 0 (show decode (zb m_Lift_halvePrides) 13 = .ok (.aload_n 0, 1) from by decide +kernel) rfl).trans ?_
  refine (r_getR (show decode (zb m_Lift_halvePrides) 14 = .ok (.getfield 28, 3) from by decide +kernel) rfl rfl h1 h2).trans ?_
  refine (r_getR (show decode (zb m_Lift_halvePrides) 17 = .ok (.getfield 69, 3) from by decide +kernel) rfl rfl h3 h4).trans ?_
  refine (r_iloadn 1 (show decode (zb m_Lift_halvePrides) 20 = .ok (.iload_n 1, 1) from by decide +kernel) rfl).trans ?_
  refine (r_aloadn 0 (show decode (zb m_Lift_halvePrides) 21 = .ok (.aload_n 0, 1) from by decide +kernel) rfl).trans ?_
  refine (r_getR (show decode (zb m_Lift_halvePrides) 22 = .ok (.getfield 28, 3) from by decide +kernel) rfl rfl h1 h2).trans ?_
  refine (r_getR (show decode (zb m_Lift_halvePrides) 25 = .ok (.getfield 69, 3) from by decide +kernel) rfl rfl h3 h4).trans ?_
  refine (r_iloadn 1 (show decode (zb m_Lift_halvePrides) 28 = .ok (.iload_n 1, 1) from by decide +kernel) rfl).trans ?_
  exact r_stat (args := [.ref (dr (gR σ (dr (gR σ a0 2)) 5)), .int x1]) (rest := [.int x1, .ref (dr (gR σ (dr (gR σ a0 2)) 5))]) (show decode (zb m_Lift_halvePrides) 29 = .ok (.invokestatic 62, 3) from by decide +kernel) rfl (by decide) rfl rfl
theorem b_Lift_halvePrides_32 {C : CF} {d : Nat} {σ : HP} {s0 : Int32} {s1 : Int32} {r2 : Nat} {l0 : Option Value} {l1 : Option Value}  : runF C d m_Lift_halvePrides (32, [l0, l1], [.int s0, .int s1, .ref r2], σ) = bkN C d m_Lift_halvePrides 34 [l0, l1] [] (C m_PL_put [.ref r2, .int s1, .int (s0 / (2 : Int32))] σ) := by
  refine (r_iconst (v := (2 : Int32)) (show decode (zb m_Lift_halvePrides) 32 = .ok (.iconst (2), 1) from by decide +kernel) (by decide)).trans ?_
  refine (r_idiv (show decode (zb m_Lift_halvePrides) 33 = .ok (.idiv, 1) from by decide +kernel) (by decide)).trans ?_
  exact r_stat (args := [.ref r2, .int s1, .int (s0 / (2 : Int32))]) (rest := []) (show decode (zb m_Lift_halvePrides) 34 = .ok (.invokestatic 162, 3) from by decide +kernel) rfl (by decide) rfl rfl
theorem b_Lift_halvePrides_37 {C : CF} {d : Nat} {σ : HP} {x1 : Int32} {l0 : Option Value}  : runF C d m_Lift_halvePrides (37, [l0, some (.int x1)], [], σ) = runF C d m_Lift_halvePrides (2, [l0, some (.int (x1 + (1 : Int32)))], [], σ) := by
  refine (r_iinc 1 (v := (1 : Int32)) (show decode (zb m_Lift_halvePrides) 37 = .ok (.iinc 1 (1), 3) from by decide +kernel) rfl rfl (by decide)).trans ?_
  exact r_goto 2 (show decode (zb m_Lift_halvePrides) 40 = .ok (.goto (-38), 3) from by decide +kernel) rfl
theorem b_Lift_halvePrides_43 {C : CF} {d : Nat} {σ : HP} {l0 : Option Value} {l1 : Option Value}  : runF C d m_Lift_halvePrides (43, [l0, l1], [], σ) = some (.inl none, σ) := by
  exact r_vret (show decode (zb m_Lift_halvePrides) 43 = .ok (.return_, 1) from by decide +kernel) rfl
theorem e_Lift_levelWith {d : Nat} {σ : HP} {a0 : Nat} {x1 : Int32} : callF (d + 1) m_Lift_levelWith [.ref a0, .int x1] σ = runF (callF d) d m_Lift_levelWith (0, [some (.ref a0), some (.int x1)], [], σ) := callF_in rfl rfl
theorem b_Lift_levelWith_0 {C : CF} {d : Nat} {σ : HP} {x1 : Int32} {l0 : Option Value}  : runF C d m_Lift_levelWith (0, [l0, some (.int x1)], [], σ) = if ¬ x1 = 0 then runF C d m_Lift_levelWith (14, [l0, some (.int x1)], [], σ) else runF C d m_Lift_levelWith (4, [l0, some (.int x1)], [], σ) := by
  refine (r_iloadn 1 (show decode (zb m_Lift_levelWith) 0 = .ok (.iload_n 1, 1) from by decide +kernel) rfl).trans ?_
  exact r_if_ne 14 (show decode (zb m_Lift_levelWith) 1 = .ok (.ifCond .ne (13), 3) from by decide +kernel) rfl
theorem b_Lift_levelWith_4 {C : CF} {d : Nat} {σ : HP} {a0 : Nat} {l1 : Option Value} (h1 : a0 % 64 = 5) (h2 : (gR σ a0 2).isSome = true) (h3 : (dr (gR σ a0 2)) % 64 = 1) : runF C d m_Lift_levelWith (4, [some (.ref a0), l1], [], σ) = runF C d m_Lift_levelWith (30, [some (.ref a0), l1], [.int (gI σ (dr (gR σ a0 2)) 1)], σ) := by
  refine (r_aloadn 0 (show decode (zb m_Lift_levelWith) 4 = .ok (.aload_n 0, 1) from by decide +kernel) rfl).trans ?_
  refine (r_getR (show decode (zb m_Lift_levelWith) 5 = .ok (.getfield 28, 3) from by decide +kernel) rfl rfl h1 h2).trans ?_
  refine (r_getI (show decode (zb m_Lift_levelWith) 8 = .ok (.getfield 55, 3) from by decide +kernel) rfl rfl h3).trans ?_
  exact r_goto 30 (show decode (zb m_Lift_levelWith) 11 = .ok (.goto (19), 3) from by decide +kernel) rfl
theorem b_Lift_levelWith_14 {C : CF} {d : Nat} {σ : HP} {a0 : Nat} {x1 : Int32} (h1 : a0 % 64 = 5) (h2 : (gR σ a0 2).isSome = true) (h3 : (dr (gR σ a0 2)) % 64 = 1) : runF C d m_Lift_levelWith (14, [some (.ref a0), some (.int x1)], [], σ) = bk C d m_Lift_levelWith 24 [some (.ref a0), some (.int x1)] [.int (gI σ (dr (gR σ a0 2)) 1), .ref a0] (C m_Lift_heavyOfSet [.ref a0, .int x1] σ) := by
  refine (r_aloadn 0 (show decode (zb m_Lift_levelWith) 14 = .ok (.aload_n 0, 1) from by decide +kernel) rfl).trans ?_
  refine (r_aloadn 0 (show decode (zb m_Lift_levelWith) 15 = .ok (.aload_n 0, 1) from by decide +kernel) rfl).trans ?_
  refine (r_getR (show decode (zb m_Lift_levelWith) 16 = .ok (.getfield 28, 3) from by decide +kernel) rfl rfl h1 h2).trans ?_
  refine (r_getI (show decode (zb m_Lift_levelWith) 19 = .ok (.getfield 55, 3) from by decide +kernel) rfl rfl h3).trans ?_
  refine (r_aloadn 0 (show decode (zb m_Lift_levelWith) 22 = .ok (.aload_n 0, 1) from by decide +kernel) rfl).trans ?_
  refine (r_iloadn 1 (show decode (zb m_Lift_levelWith) 23 = .ok (.iload_n 1, 1) from by decide +kernel) rfl).trans ?_
  exact r_virt (args := [.int x1]) (rest := [.int (gI σ (dr (gR σ a0 2)) 1), .ref a0]) (show decode (zb m_Lift_levelWith) 24 = .ok (.invokevirtual 79, 3) from by decide +kernel) rfl rfl rfl h1
theorem b_Lift_levelWith_27 {C : CF} {d : Nat} {σ : HP} {s0 : Int32} {s1 : Int32} {r2 : Nat} {l0 : Option Value} {l1 : Option Value} (h1 : r2 % 64 = 5) : runF C d m_Lift_levelWith (27, [l0, l1], [.int s0, .int s1, .ref r2], σ) = bk C d m_Lift_levelWith 27 [l0, l1] [] (C m_Lift_goesFrom [.ref r2, .int s1, .int s0] σ) := by
  exact r_virt (args := [.int s1, .int s0]) (rest := []) (show decode (zb m_Lift_levelWith) 27 = .ok (.invokevirtual 145, 3) from by decide +kernel) rfl rfl rfl h1
theorem b_Lift_levelWith_30 {C : CF} {d : Nat} {σ : HP} {s0 : Int32} {l0 : Option Value} {l1 : Option Value}  : runF C d m_Lift_levelWith (30, [l0, l1], [.int s0], σ) = some (.inl (some (.int s0)), σ) := by
  exact r_iret (show decode (zb m_Lift_levelWith) 30 = .ok (.ireturn, 1) from by decide +kernel) rfl rfl
theorem e_Lift_liesTo {d : Nat} {σ : HP} {a0 : Nat} {x1 : Int32} : callF (d + 1) m_Lift_liesTo [.ref a0, .int x1] σ = runF (callF d) d m_Lift_liesTo (0, [some (.ref a0), some (.int x1), none, none], [], σ) := callF_in rfl rfl
theorem b_Lift_liesTo_0 {C : CF} {d : Nat} {σ : HP} {l0 : Option Value} {l1 : Option Value} {l2 : Option Value} {l3 : Option Value}  : runF C d m_Lift_liesTo (0, [l0, l1, l2, l3], [], σ) = runF C d m_Lift_liesTo (4, [l0, l1, some (.int ((0 : Int32))), some (.int ((0 : Int32)))], [], σ) := by
  refine (r_iconst (v := (0 : Int32)) (show decode (zb m_Lift_liesTo) 0 = .ok (.iconst (0), 1) from by decide +kernel) (by decide)).trans ?_
  refine (r_istoren 2 (show decode (zb m_Lift_liesTo) 1 = .ok (.istore_n 2, 1) from by decide +kernel) rfl).trans ?_
  refine (r_iconst (v := (0 : Int32)) (show decode (zb m_Lift_liesTo) 2 = .ok (.iconst (0), 1) from by decide +kernel) (by decide)).trans ?_
  exact r_istoren 3 (show decode (zb m_Lift_liesTo) 3 = .ok (.istore_n 3, 1) from by decide +kernel) rfl
theorem b_Lift_liesTo_4 {C : CF} {d : Nat} {σ : HP} {x3 : Int32} {a0 : Nat} {l1 : Option Value} {l2 : Option Value} (h1 : a0 % 64 = 5) (h2 : (gR σ a0 0).isSome = true) (h3 : (dr (gR σ a0 0)) % 64 = 2) : runF C d m_Lift_liesTo (4, [some (.ref a0), l1, l2, some (.int x3)], [], σ) = if (gI σ (dr (gR σ a0 0)) 2) ≤ x3 then runF C d m_Lift_liesTo (36, [some (.ref a0), l1, l2, some (.int x3)], [], σ) else runF C d m_Lift_liesTo (15, [some (.ref a0), l1, l2, some (.int x3)], [], σ) := by
  refine (r_iloadn 3 (show decode (zb m_Lift_liesTo) 4 = .ok (.iload_n 3, 1) from by decide +kernel) rfl).trans ?_
  refine (r_aloadn 0 (show decode (zb m_Lift_liesTo) 5 = .ok (.aload_n 0, 1) from by decide +kernel) rfl).trans ?_
  refine (r_getR (show decode (zb m_Lift_liesTo) 6 = .ok (.getfield 12, 3) from by decide +kernel) rfl rfl h1 h2).trans ?_
  refine (r_getI (show decode (zb m_Lift_liesTo) 9 = .ok (.getfield 99, 3) from by decide +kernel) rfl rfl h3).trans ?_
  exact r_icmp_ge 36 (show decode (zb m_Lift_liesTo) 12 = .ok (.if_icmp .ge (24), 3) from by decide +kernel) rfl
theorem b_Lift_liesTo_15 {C : CF} {d : Nat} {σ : HP} {a0 : Nat} {x1 : Int32} {x3 : Int32} {l2 : Option Value} (h1 : a0 % 64 = 5) : runF C d m_Lift_liesTo (15, [some (.ref a0), some (.int x1), l2, some (.int x3)], [], σ) = bk C d m_Lift_liesTo 18 [some (.ref a0), some (.int x1), l2, some (.int x3)] [] (C m_Lift_isLie [.ref a0, .int x1, .int x3] σ) := by
  refine (r_aloadn 0 (show decode (zb m_Lift_liesTo) 15 = .ok (.aload_n 0, 1) from by decide +kernel) rfl).trans ?_
  refine (r_iloadn 1 (show decode (zb m_Lift_liesTo) 16 = .ok (.iload_n 1, 1) from by decide +kernel) rfl).trans ?_
  refine (r_iloadn 3 (show decode (zb m_Lift_liesTo) 17 = .ok (.iload_n 3, 1) from by decide +kernel) rfl).trans ?_
  exact r_virt (args := [.int x1, .int x3]) (rest := []) (show decode (zb m_Lift_liesTo) 18 = .ok (.invokevirtual 102, 3) from by decide +kernel) rfl rfl rfl h1
theorem b_Lift_liesTo_21 {C : CF} {d : Nat} {σ : HP} {s0 : Int32} {l0 : Option Value} {l1 : Option Value} {l2 : Option Value} {l3 : Option Value}  : runF C d m_Lift_liesTo (21, [l0, l1, l2, l3], [.int s0], σ) = if s0 = 0 then runF C d m_Lift_liesTo (30, [l0, l1, l2, l3], [], σ) else runF C d m_Lift_liesTo (24, [l0, l1, l2, l3], [], σ) := by
  exact r_if_eq 30 (show decode (zb m_Lift_liesTo) 21 = .ok (.ifCond .eq (9), 3) from by decide +kernel) rfl
theorem b_Lift_liesTo_24 {C : CF} {d : Nat} {σ : HP} {x2 : Int32} {x3 : Int32} {l0 : Option Value} {l1 : Option Value}  : runF C d m_Lift_liesTo (24, [l0, l1, some (.int x2), some (.int x3)], [], σ) = runF C d m_Lift_liesTo (30, [l0, l1, some (.int (x2 ||| (p_shl (1 : Int32) x3))), some (.int x3)], [], σ) := by
  refine (r_iloadn 2 (show decode (zb m_Lift_liesTo) 24 = .ok (.iload_n 2, 1) from by decide +kernel) rfl).trans ?_
  refine (r_iconst (v := (1 : Int32)) (show decode (zb m_Lift_liesTo) 25 = .ok (.iconst (1), 1) from by decide +kernel) (by decide)).trans ?_
  refine (r_iloadn 3 (show decode (zb m_Lift_liesTo) 26 = .ok (.iload_n 3, 1) from by decide +kernel) rfl).trans ?_
  refine (r_ishl (show decode (zb m_Lift_liesTo) 27 = .ok (.ishl, 1) from by decide +kernel)).trans ?_
  refine (r_ior (show decode (zb m_Lift_liesTo) 28 = .ok (.ior, 1) from by decide +kernel)).trans ?_
  exact r_istoren 2 (show decode (zb m_Lift_liesTo) 29 = .ok (.istore_n 2, 1) from by decide +kernel) rfl
theorem b_Lift_liesTo_30 {C : CF} {d : Nat} {σ : HP} {x3 : Int32} {l0 : Option Value} {l1 : Option Value} {l2 : Option Value}  : runF C d m_Lift_liesTo (30, [l0, l1, l2, some (.int x3)], [], σ) = runF C d m_Lift_liesTo (4, [l0, l1, l2, some (.int (x3 + (1 : Int32)))], [], σ) := by
  refine (r_iinc 3 (v := (1 : Int32)) (show decode (zb m_Lift_liesTo) 30 = .ok (.iinc 3 (1), 3) from by decide +kernel) rfl rfl (by decide)).trans ?_
  exact r_goto 4 (show decode (zb m_Lift_liesTo) 33 = .ok (.goto (-29), 3) from by decide +kernel) rfl
theorem b_Lift_liesTo_36 {C : CF} {d : Nat} {σ : HP} {x2 : Int32} {l0 : Option Value} {l1 : Option Value} {l3 : Option Value}  : runF C d m_Lift_liesTo (36, [l0, l1, some (.int x2), l3], [], σ) = some (.inl (some (.int x2)), σ) := by
  refine (r_iloadn 2 (show decode (zb m_Lift_liesTo) 36 = .ok (.iload_n 2, 1) from by decide +kernel) rfl).trans ?_
  exact r_iret (show decode (zb m_Lift_liesTo) 37 = .ok (.ireturn, 1) from by decide +kernel) rfl rfl
theorem e_Lift_heardByAll {d : Nat} {σ : HP} {a0 : Nat} {x1 : Int32} : callF (d + 1) m_Lift_heardByAll [.ref a0, .int x1] σ = runF (callF d) d m_Lift_heardByAll (0, [some (.ref a0), some (.int x1), none, none], [], σ) := callF_in rfl rfl
theorem b_Lift_heardByAll_0 {C : CF} {d : Nat} {σ : HP} {l0 : Option Value} {l1 : Option Value} {l2 : Option Value} {l3 : Option Value}  : runF C d m_Lift_heardByAll (0, [l0, l1, l2, l3], [], σ) = runF C d m_Lift_heardByAll (4, [l0, l1, some (.int ((0 : Int32))), some (.int ((0 : Int32)))], [], σ) := by
  refine (r_iconst (v := (0 : Int32)) (show decode (zb m_Lift_heardByAll) 0 = .ok (.iconst (0), 1) from by decide +kernel) (by decide)).trans ?_
  refine (r_istoren 2 (show decode (zb m_Lift_heardByAll) 1 = .ok (.istore_n 2, 1) from by decide +kernel) rfl).trans ?_
  refine (r_iconst (v := (0 : Int32)) (show decode (zb m_Lift_heardByAll) 2 = .ok (.iconst (0), 1) from by decide +kernel) (by decide)).trans ?_
  exact r_istoren 3 (show decode (zb m_Lift_heardByAll) 3 = .ok (.istore_n 3, 1) from by decide +kernel) rfl
theorem b_Lift_heardByAll_4 {C : CF} {d : Nat} {σ : HP} {x3 : Int32} {a0 : Nat} {l1 : Option Value} {l2 : Option Value} (h1 : a0 % 64 = 5) (h2 : (gR σ a0 0).isSome = true) (h3 : (dr (gR σ a0 0)) % 64 = 2) : runF C d m_Lift_heardByAll (4, [some (.ref a0), l1, l2, some (.int x3)], [], σ) = if (gI σ (dr (gR σ a0 0)) 1) ≤ x3 then runF C d m_Lift_heardByAll (33, [some (.ref a0), l1, l2, some (.int x3)], [], σ) else runF C d m_Lift_heardByAll (15, [some (.ref a0), l1, l2, some (.int x3)], [], σ) := by
  refine (r_iloadn 3 (show decode (zb m_Lift_heardByAll) 4 = .ok (.iload_n 3, 1) from by decide +kernel) rfl).trans ?_
  refine (r_aloadn 0 (show decode (zb m_Lift_heardByAll) 5 = .ok (.aload_n 0, 1) from by decide +kernel) rfl).trans ?_
  refine (r_getR (show decode (zb m_Lift_heardByAll) 6 = .ok (.getfield 12, 3) from by decide +kernel) rfl rfl h1 h2).trans ?_
  refine (r_getI (show decode (zb m_Lift_heardByAll) 9 = .ok (.getfield 72, 3) from by decide +kernel) rfl rfl h3).trans ?_
  exact r_icmp_ge 33 (show decode (zb m_Lift_heardByAll) 12 = .ok (.if_icmp .ge (21), 3) from by decide +kernel) rfl
theorem b_Lift_heardByAll_15 {C : CF} {d : Nat} {σ : HP} {x2 : Int32} {a0 : Nat} {x3 : Int32} {x1 : Int32} (h1 : a0 % 64 = 5) (h2 : (gR σ a0 2).isSome = true) (h3 : (dr (gR σ a0 2)) % 64 = 1) : runF C d m_Lift_heardByAll (15, [some (.ref a0), some (.int x1), some (.int x2), some (.int x3)], [], σ) = bk C d m_Lift_heardByAll 22 [some (.ref a0), some (.int x1), some (.int x2), some (.int x3)] [.int x2] (C m_Days_timesHeard [.ref (dr (gR σ a0 2)), .int x3, .int x1] σ) := by
  refine (r_iloadn 2 (show decode (zb m_Lift_heardByAll) 15 = .ok (.iload_n 2, 1) from by decide +kernel) rfl).trans ?_
  refine (r_aloadn 0 (show decode (zb m_Lift_heardByAll) 16 = .ok (.aload_n 0, 1) from by decide +kernel) rfl).trans ?_
  refine (r_getR (show decode (zb m_Lift_heardByAll) 17 = .ok (.getfield 28, 3) from by decide +kernel) rfl rfl h1 h2).trans ?_
  refine (r_iloadn 3 (show decode (zb m_Lift_heardByAll) 20 = .ok (.iload_n 3, 1) from by decide +kernel) rfl).trans ?_
  refine (r_iloadn 1 (show decode (zb m_Lift_heardByAll) 21 = .ok (.iload_n 1, 1) from by decide +kernel) rfl).trans ?_
  exact r_virt (args := [.int x3, .int x1]) (rest := [.int x2]) (show decode (zb m_Lift_heardByAll) 22 = .ok (.invokevirtual 89, 3) from by decide +kernel) rfl rfl rfl h3
theorem b_Lift_heardByAll_25 {C : CF} {d : Nat} {σ : HP} {s0 : Int32} {s1 : Int32} {x3 : Int32} {l0 : Option Value} {l1 : Option Value} {l2 : Option Value}  : runF C d m_Lift_heardByAll (25, [l0, l1, l2, some (.int x3)], [.int s0, .int s1], σ) = runF C d m_Lift_heardByAll (4, [l0, l1, some (.int (s1 + s0)), some (.int (x3 + (1 : Int32)))], [], σ) := by
  refine (r_iadd (show decode (zb m_Lift_heardByAll) 25 = .ok (.iadd, 1) from by decide +kernel)).trans ?_
  refine (r_istoren 2 (show decode (zb m_Lift_heardByAll) 26 = .ok (.istore_n 2, 1) from by decide +kernel) rfl).trans ?_
  refine (r_iinc 3 (v := (1 : Int32)) (show decode (zb m_Lift_heardByAll) 27 = .ok (.iinc 3 (1), 3) from by decide +kernel) rfl rfl (by decide)).trans ?_
  exact r_goto 4 (show decode (zb m_Lift_heardByAll) 30 = .ok (.goto (-26), 3) from by decide +kernel) rfl
theorem b_Lift_heardByAll_33 {C : CF} {d : Nat} {σ : HP} {x2 : Int32} {l0 : Option Value} {l1 : Option Value} {l3 : Option Value}  : runF C d m_Lift_heardByAll (33, [l0, l1, some (.int x2), l3], [], σ) = some (.inl (some (.int x2)), σ) := by
  refine (r_iloadn 2 (show decode (zb m_Lift_heardByAll) 33 = .ok (.iload_n 2, 1) from by decide +kernel) rfl).trans ?_
  exact r_iret (show decode (zb m_Lift_heardByAll) 34 = .ok (.ireturn, 1) from by decide +kernel) rfl rfl
theorem e_Lift_levelBehindGoes {d : Nat} {σ : HP} {a0 : Nat} {x1 : Int32} : callF (d + 1) m_Lift_levelBehindGoes [.ref a0, .int x1] σ = runF (callF d) d m_Lift_levelBehindGoes (0, [some (.ref a0), some (.int x1), none, none, none], [], σ) := callF_in rfl rfl
theorem b_Lift_levelBehindGoes_0 {C : CF} {d : Nat} {σ : HP} {a0 : Nat} {l1 : Option Value} {l2 : Option Value} {l3 : Option Value} {l4 : Option Value} (h1 : a0 % 64 = 5) (h2 : (gR σ a0 2).isSome = true) (h3 : (dr (gR σ a0 2)) % 64 = 1) : runF C d m_Lift_levelBehindGoes (0, [some (.ref a0), l1, l2, l3, l4], [], σ) = bk C d m_Lift_levelBehindGoes 9 [some (.ref a0), l1, some (.int (gI σ (dr (gR σ a0 2)) 1)), l3, l4] [] (C m_Lift_loadNow [.ref a0] σ) := by
  refine (r_aloadn 0 (show decode (zb m_Lift_levelBehindGoes) 0 = .ok (.aload_n 0, 1) from by decide +kernel) rfl).trans ?_
  refine (r_getR (show decode (zb m_Lift_levelBehindGoes) 1 = .ok (.getfield 28, 3) from by decide +kernel) rfl rfl h1 h2).trans ?_
  refine (r_getI (show decode (zb m_Lift_levelBehindGoes) 4 = .ok (.getfield 55, 3) from by decide +kernel) rfl rfl h3).trans ?_
  refine (r_istoren 2 (show decode (zb m_Lift_levelBehindGoes) 7 = .ok (.istore_n 2, 1) from by decide +kernel) rfl).trans ?_
  refine (r_aloadn 0 (show decode (zb m_Lift_levelBehindGoes) 8 = .ok (.aload_n 0, 1) from by decide +kernel) rfl).trans ?_
  exact r_virt (args := []) (rest := []) (show decode (zb m_Lift_levelBehindGoes) 9 = .ok (.invokevirtual 148, 3) from by decide +kernel) rfl rfl rfl h1
theorem b_Lift_levelBehindGoes_12 {C : CF} {d : Nat} {σ : HP} {s0 : Int32} {l0 : Option Value} {l1 : Option Value} {l2 : Option Value} {l3 : Option Value} {l4 : Option Value}  : runF C d m_Lift_levelBehindGoes (12, [l0, l1, l2, l3, l4], [.int s0], σ) = runF C d m_Lift_levelBehindGoes (16, [l0, l1, l2, some (.int s0), some (.int ((0 : Int32)))], [], σ) := by
  refine (r_istoren 3 (show decode (zb m_Lift_levelBehindGoes) 12 = .ok (.istore_n 3, 1) from by decide +kernel) rfl).trans ?_
  refine (r_iconst (v := (0 : Int32)) (show decode (zb m_Lift_levelBehindGoes) 13 = .ok (.iconst (0), 1) from by decide +kernel) (by decide)).trans ?_
  exact r_istore 4 (show decode (zb m_Lift_levelBehindGoes) 14 = .ok (.istore 4, 2) from by decide +kernel) rfl
theorem b_Lift_levelBehindGoes_16 {C : CF} {d : Nat} {σ : HP} {x4 : Int32} {x1 : Int32} {l0 : Option Value} {l2 : Option Value} {l3 : Option Value}  : runF C d m_Lift_levelBehindGoes (16, [l0, some (.int x1), l2, l3, some (.int x4)], [], σ) = if x1 ≤ x4 then runF C d m_Lift_levelBehindGoes (45, [l0, some (.int x1), l2, l3, some (.int x4)], [], σ) else runF C d m_Lift_levelBehindGoes (22, [l0, some (.int x1), l2, l3, some (.int x4)], [], σ) := by
  refine (r_iload 4 (show decode (zb m_Lift_levelBehindGoes) 16 = .ok (.iload 4, 2) from by decide +kernel) rfl).trans ?_
  refine (r_iloadn 1 (show decode (zb m_Lift_levelBehindGoes) 18 = .ok (.iload_n 1, 1) from by decide +kernel) rfl).trans ?_
  exact r_icmp_ge 45 (show decode (zb m_Lift_levelBehindGoes) 19 = .ok (.if_icmp .ge (26), 3) from by decide +kernel) rfl
theorem b_Lift_levelBehindGoes_22 {C : CF} {d : Nat} {σ : HP} {a0 : Nat} {l1 : Option Value} {l2 : Option Value} {l3 : Option Value} {l4 : Option Value} (h1 : a0 % 64 = 5) (h2 : (gR σ a0 2).isSome = true) (h3 : (dr (gR σ a0 2)) % 64 = 1) : runF C d m_Lift_levelBehindGoes (22, [some (.ref a0), l1, l2, l3, l4], [], σ) = if (gI σ (dr (gR σ a0 2)) 2) = 0 then runF C d m_Lift_levelBehindGoes (45, [some (.ref a0), l1, l2, l3, l4], [], σ) else runF C d m_Lift_levelBehindGoes (32, [some (.ref a0), l1, l2, l3, l4], [], σ) := by
  refine (r_aloadn 0 (show decode (zb m_Lift_levelBehindGoes) 22 = .ok (.aload_n 0, 1) from by decide +kernel) rfl).trans ?_
  refine (r_getR (show decode (zb m_Lift_levelBehindGoes) 23 = .ok (.getfield 28, 3) from by decide +kernel) rfl rfl h1 h2).trans ?_
  refine (r_getI (show decode (zb m_Lift_levelBehindGoes) 26 = .ok (.getfield 43, 3) from by decide +kernel) rfl rfl h3).trans ?_
  exact r_if_eq 45 (show decode (zb m_Lift_levelBehindGoes) 29 = .ok (.ifCond .eq (16), 3) from by decide +kernel) rfl
theorem b_Lift_levelBehindGoes_32 {C : CF} {d : Nat} {σ : HP} {a0 : Nat} {x2 : Int32} {x3 : Int32} {l1 : Option Value} {l4 : Option Value} (h1 : a0 % 64 = 5) : runF C d m_Lift_levelBehindGoes (32, [some (.ref a0), l1, some (.int x2), some (.int x3), l4], [], σ) = bk C d m_Lift_levelBehindGoes 35 [some (.ref a0), l1, some (.int x2), some (.int x3), l4] [] (C m_Lift_goesFrom [.ref a0, .int x2, .int x3] σ) := by
  refine (r_aloadn 0 (show decode (zb m_Lift_levelBehindGoes) 32 = .ok (.aload_n 0, 1) from by decide +kernel) rfl).trans ?_
  refine (r_iloadn 2 (show decode (zb m_Lift_levelBehindGoes) 33 = .ok (.iload_n 2, 1) from by decide +kernel) rfl).trans ?_
  refine (r_iloadn 3 (show decode (zb m_Lift_levelBehindGoes) 34 = .ok (.iload_n 3, 1) from by decide +kernel) rfl).trans ?_
  exact r_virt (args := [.int x2, .int x3]) (rest := []) (show decode (zb m_Lift_levelBehindGoes) 35 = .ok (.invokevirtual 145, 3) from by decide +kernel) rfl rfl rfl h1
theorem b_Lift_levelBehindGoes_38 {C : CF} {d : Nat} {σ : HP} {s0 : Int32} {x4 : Int32} {l0 : Option Value} {l1 : Option Value} {l2 : Option Value} {l3 : Option Value}  : runF C d m_Lift_levelBehindGoes (38, [l0, l1, l2, l3, some (.int x4)], [.int s0], σ) = runF C d m_Lift_levelBehindGoes (16, [l0, l1, some (.int s0), l3, some (.int (x4 + (1 : Int32)))], [], σ) := by
  refine (r_istoren 2 (show decode (zb m_Lift_levelBehindGoes) 38 = .ok (.istore_n 2, 1) from by decide +kernel) rfl).trans ?_
  refine (r_iinc 4 (v := (1 : Int32)) (show decode (zb m_Lift_levelBehindGoes) 39 = .ok (.iinc 4 (1), 3) from by decide +kernel) rfl rfl (by decide)).trans ?_
  exact r_goto 16 (show decode (zb m_Lift_levelBehindGoes) 42 = .ok (.goto (-26), 3) from by decide +kernel) rfl
theorem b_Lift_levelBehindGoes_45 {C : CF} {d : Nat} {σ : HP} {x2 : Int32} {l0 : Option Value} {l1 : Option Value} {l3 : Option Value} {l4 : Option Value}  : runF C d m_Lift_levelBehindGoes (45, [l0, l1, some (.int x2), l3, l4], [], σ) = some (.inl (some (.int x2)), σ) := by
  refine (r_iloadn 2 (show decode (zb m_Lift_levelBehindGoes) 45 = .ok (.iload_n 2, 1) from by decide +kernel) rfl).trans ?_
  exact r_iret (show decode (zb m_Lift_levelBehindGoes) 46 = .ok (.ireturn, 1) from by decide +kernel) rfl rfl
theorem e_Lift_becomeLike {d : Nat} {σ : HP} {a0 : Nat} {a1 : Nat} : callF (d + 1) m_Lift_becomeLike [.ref a0, .ref a1] σ = runF (callF d) d m_Lift_becomeLike (0, [some (.ref a0), some (.ref a1)], [], σ) := callF_in rfl rfl
theorem b_Lift_becomeLike_0 {C : CF} {d : Nat} {σ : HP} {a0 : Nat} {a1 : Nat} (h1 : a1 % 64 = 5) (h2 : (gR σ a1 0).isSome = true) (h3 : a0 % 64 = 5) (h4 : (gR (wR σ a0 0 (some (dr (gR σ a1 0)))) a1 1).isSome = true) (h5 : (gR (wR (wR σ a0 0 (some (dr (gR σ a1 0)))) a0 1 (some (dr (gR (wR σ a0 0 (some (dr (gR σ a1 0)))) a1 1)))) a0 2).isSome = true) (h6 : (gR (wR (wR σ a0 0 (some (dr (gR σ a1 0)))) a0 1 (some (dr (gR (wR σ a0 0 (some (dr (gR σ a1 0)))) a1 1)))) a1 2).isSome = true) (h7 : (dr (gR (wR (wR σ a0 0 (some (dr (gR σ a1 0)))) a0 1 (some (dr (gR (wR σ a0 0 (some (dr (gR σ a1 0)))) a1 1)))) a0 2)) % 64 = 1) : runF C d m_Lift_becomeLike (0, [some (.ref a0), some (.ref a1)], [], σ) = bk C d m_Lift_becomeLike 24 [some (.ref a0), some (.ref a1)] [] (C m_Days_takeFrom [.ref (dr (gR (wR (wR σ a0 0 (some (dr (gR σ a1 0)))) a0 1 (some (dr (gR (wR σ a0 0 (some (dr (gR σ a1 0)))) a1 1)))) a0 2)), .ref (dr (gR (wR (wR σ a0 0 (some (dr (gR σ a1 0)))) a0 1 (some (dr (gR (wR σ a0 0 (some (dr (gR σ a1 0)))) a1 1)))) a1 2))] (wR (wR σ a0 0 (some (dr (gR σ a1 0)))) a0 1 (some (dr (gR (wR σ a0 0 (some (dr (gR σ a1 0)))) a1 1))))) := by
  refine (r_aloadn 0 (show decode (zb m_Lift_becomeLike) 0 = .ok (.aload_n 0, 1) from by decide +kernel) rfl).trans ?_
  refine (r_aloadn 1 (show decode (zb m_Lift_becomeLike) 1 = .ok (.aload_n 1, 1) from by decide +kernel) rfl).trans ?_
  refine (r_getR (show decode (zb m_Lift_becomeLike) 2 = .ok (.getfield 12, 3) from by decide +kernel) rfl rfl h1 h2).trans ?_
  refine (r_putR (show decode (zb m_Lift_becomeLike) 5 = .ok (.putfield 12, 3) from by decide +kernel) rfl rfl rfl h3).trans ?_
  refine (r_aloadn 0 (show decode (zb m_Lift_becomeLike) 8 = .ok (.aload_n 0, 1) from by decide +kernel) rfl).trans ?_
  refine (r_aloadn 1 (show decode (zb m_Lift_becomeLike) 9 = .ok (.aload_n 1, 1) from by decide +kernel) rfl).trans ?_
  refine (r_getR (show decode (zb m_Lift_becomeLike) 10 = .ok (.getfield 21, 3) from by decide +kernel) rfl rfl h1 h4).trans ?_
  refine (r_putR (show decode (zb m_Lift_becomeLike) 13 = .ok (.putfield 21, 3) from by decide +kernel) rfl rfl rfl h3).trans ?_
  refine (r_aloadn 0 (show decode (zb m_Lift_becomeLike) 16 = .ok (.aload_n 0, 1) from by decide +kernel) rfl).trans ?_
  refine (r_getR (show decode (zb m_Lift_becomeLike) 17 = .ok (.getfield 28, 3) from by decide +kernel) rfl rfl h3 h5).trans ?_
  refine (r_aloadn 1 (show decode (zb m_Lift_becomeLike) 20 = .ok (.aload_n 1, 1) from by decide +kernel) rfl).trans ?_
  refine (r_getR (show decode (zb m_Lift_becomeLike) 21 = .ok (.getfield 28, 3) from by decide +kernel) rfl rfl h1 h6).trans ?_
  exact r_virt (args := [.ref (dr (gR (wR (wR σ a0 0 (some (dr (gR σ a1 0)))) a0 1 (some (dr (gR (wR σ a0 0 (some (dr (gR σ a1 0)))) a1 1)))) a1 2))]) (rest := []) (show decode (zb m_Lift_becomeLike) 24 = .ok (.invokevirtual 39, 3) from by decide +kernel) rfl rfl rfl h7
theorem b_Lift_becomeLike_27 {C : CF} {d : Nat} {σ : HP} {l0 : Option Value} {l1 : Option Value}  : runF C d m_Lift_becomeLike (27, [l0, l1], [], σ) = some (.inl none, σ) := by
  exact r_vret (show decode (zb m_Lift_becomeLike) 27 = .ok (.return_, 1) from by decide +kernel) rfl
theorem e_Lift_prideOfAll {d : Nat} {σ : HP} {a0 : Nat} : callF (d + 1) m_Lift_prideOfAll [.ref a0] σ = runF (callF d) d m_Lift_prideOfAll (0, [some (.ref a0)], [], σ) := callF_in rfl rfl
theorem b_Lift_prideOfAll_0 {C : CF} {d : Nat} {σ : HP} {a0 : Nat} (h1 : a0 % 64 = 5) (h2 : (gR σ a0 2).isSome = true) (h3 : (dr (gR σ a0 2)) % 64 = 1) (h4 : (gR σ (dr (gR σ a0 2)) 5).isSome = true) : runF C d m_Lift_prideOfAll (0, [some (.ref a0)], [], σ) = bk C d m_Lift_prideOfAll 8 [some (.ref a0)] [] (C m_Lift_sumOfMen [.ref a0, .ref (dr (gR σ (dr (gR σ a0 2)) 5))] σ) := by
  refine (r_aloadn 0 (show decode (zb m_Lift_prideOfAll) 0 = .ok (.aload_n 0, 1) from by decide +kernel) rfl).trans ?_
  refine (r_aloadn 0 (show decode (zb m_Lift_prideOfAll) 1 = .ok (.aload_n 0, 1) from by decide +kernel) rfl).trans ?_
  refine (r_getR (show decode (zb m_Lift_prideOfAll) 2 = .ok (.getfield 28, 3) from by decide +kernel) rfl rfl h1 h2).trans ?_
  refine (r_getR (show decode (zb m_Lift_prideOfAll) 5 = .ok (.getfield 69, 3) from by decide +kernel) rfl rfl h3 h4).trans ?_
  exact r_virt (args := [.ref (dr (gR σ (dr (gR σ a0 2)) 5))]) (rest := []) (show decode (zb m_Lift_prideOfAll) 8 = .ok (.invokevirtual 82, 3) from by decide +kernel) rfl rfl rfl h1
theorem b_Lift_prideOfAll_11 {C : CF} {d : Nat} {σ : HP} {s0 : Int32} {l0 : Option Value}  : runF C d m_Lift_prideOfAll (11, [l0], [.int s0], σ) = some (.inl (some (.int s0)), σ) := by
  exact r_iret (show decode (zb m_Lift_prideOfAll) 11 = .ok (.ireturn, 1) from by decide +kernel) rfl rfl
theorem e_Lift_sumOfMen {d : Nat} {σ : HP} {a0 : Nat} {a1 : Nat} : callF (d + 1) m_Lift_sumOfMen [.ref a0, .ref a1] σ = runF (callF d) d m_Lift_sumOfMen (0, [some (.ref a0), some (.ref a1), none, none], [], σ) := callF_in rfl rfl
theorem b_Lift_sumOfMen_0 {C : CF} {d : Nat} {σ : HP} {l0 : Option Value} {l1 : Option Value} {l2 : Option Value} {l3 : Option Value}  : runF C d m_Lift_sumOfMen (0, [l0, l1, l2, l3], [], σ) = runF C d m_Lift_sumOfMen (4, [l0, l1, some (.int ((0 : Int32))), some (.int ((0 : Int32)))], [], σ) := by
  refine (r_iconst (v := (0 : Int32)) (show decode (zb m_Lift_sumOfMen) 0 = .ok (.iconst (0), 1) from by decide +kernel) (by decide)).trans ?_
  refine (r_istoren 2 (show decode (zb m_Lift_sumOfMen) 1 = .ok (.istore_n 2, 1) from by decide +kernel) rfl).trans ?_
  refine (r_iconst (v := (0 : Int32)) (show decode (zb m_Lift_sumOfMen) 2 = .ok (.iconst (0), 1) from by decide +kernel) (by decide)).trans ?_
  exact r_istoren 3 (show decode (zb m_Lift_sumOfMen) 3 = .ok (.istore_n 3, 1) from by decide +kernel) rfl
theorem b_Lift_sumOfMen_4 {C : CF} {d : Nat} {σ : HP} {x3 : Int32} {a0 : Nat} {l1 : Option Value} {l2 : Option Value} (h1 : a0 % 64 = 5) (h2 : (gR σ a0 0).isSome = true) (h3 : (dr (gR σ a0 0)) % 64 = 2) : runF C d m_Lift_sumOfMen (4, [some (.ref a0), l1, l2, some (.int x3)], [], σ) = if (gI σ (dr (gR σ a0 0)) 1) ≤ x3 then runF C d m_Lift_sumOfMen (29, [some (.ref a0), l1, l2, some (.int x3)], [], σ) else runF C d m_Lift_sumOfMen (15, [some (.ref a0), l1, l2, some (.int x3)], [], σ) := by
  refine (r_iloadn 3 (show decode (zb m_Lift_sumOfMen) 4 = .ok (.iload_n 3, 1) from by decide +kernel) rfl).trans ?_
  refine (r_aloadn 0 (show decode (zb m_Lift_sumOfMen) 5 = .ok (.aload_n 0, 1) from by decide +kernel) rfl).trans ?_
  refine (r_getR (show decode (zb m_Lift_sumOfMen) 6 = .ok (.getfield 12, 3) from by decide +kernel) rfl rfl h1 h2).trans ?_
  refine (r_getI (show decode (zb m_Lift_sumOfMen) 9 = .ok (.getfield 72, 3) from by decide +kernel) rfl rfl h3).trans ?_
  exact r_icmp_ge 29 (show decode (zb m_Lift_sumOfMen) 12 = .ok (.if_icmp .ge (17), 3) from by decide +kernel) rfl
theorem b_Lift_sumOfMen_15 {C : CF} {d : Nat} {σ : HP} {x2 : Int32} {a1 : Nat} {x3 : Int32} {l0 : Option Value}  : runF C d m_Lift_sumOfMen (15, [l0, some (.ref a1), some (.int x2), some (.int x3)], [], σ) = bkN C d m_Lift_sumOfMen 18 [l0, some (.ref a1), some (.int x2), some (.int x3)] [.int x2] (C m_PL_at [.ref a1, .int x3] σ) := by
  refine (r_iloadn 2 (show decode (zb m_Lift_sumOfMen) 15 = .ok (.iload_n 2, 1) from by decide +kernel) rfl).trans ?_
  refine (r_aloadn 1 (show decode (zb m_Lift_sumOfMen) 16 = .ok (.aload_n 1, 1) from by decide +kernel) rfl).trans ?_
  refine (r_iloadn 3 (show decode (zb m_Lift_sumOfMen) 17 = .ok (.iload_n 3, 1) from by decide +kernel) rfl).trans ?_
  exact r_stat (args := [.ref a1, .int x3]) (rest := [.int x2]) (show decode (zb m_Lift_sumOfMen) 18 = .ok (.invokestatic 62, 3) from by decide +kernel) rfl (by decide) rfl rfl
theorem b_Lift_sumOfMen_21 {C : CF} {d : Nat} {σ : HP} {s0 : Int32} {s1 : Int32} {x3 : Int32} {l0 : Option Value} {l1 : Option Value} {l2 : Option Value}  : runF C d m_Lift_sumOfMen (21, [l0, l1, l2, some (.int x3)], [.int s0, .int s1], σ) = runF C d m_Lift_sumOfMen (4, [l0, l1, some (.int (s1 + s0)), some (.int (x3 + (1 : Int32)))], [], σ) := by
  refine (r_iadd (show decode (zb m_Lift_sumOfMen) 21 = .ok (.iadd, 1) from by decide +kernel)).trans ?_
  refine (r_istoren 2 (show decode (zb m_Lift_sumOfMen) 22 = .ok (.istore_n 2, 1) from by decide +kernel) rfl).trans ?_
  refine (r_iinc 3 (v := (1 : Int32)) (show decode (zb m_Lift_sumOfMen) 23 = .ok (.iinc 3 (1), 3) from by decide +kernel) rfl rfl (by decide)).trans ?_
  exact r_goto 4 (show decode (zb m_Lift_sumOfMen) 26 = .ok (.goto (-22), 3) from by decide +kernel) rfl
theorem b_Lift_sumOfMen_29 {C : CF} {d : Nat} {σ : HP} {x2 : Int32} {l0 : Option Value} {l1 : Option Value} {l3 : Option Value}  : runF C d m_Lift_sumOfMen (29, [l0, l1, some (.int x2), l3], [], σ) = some (.inl (some (.int x2)), σ) := by
  refine (r_iloadn 2 (show decode (zb m_Lift_sumOfMen) 29 = .ok (.iload_n 2, 1) from by decide +kernel) rfl).trans ?_
  exact r_iret (show decode (zb m_Lift_sumOfMen) 30 = .ok (.ireturn, 1) from by decide +kernel) rfl rfl
theorem e_Lift_walkAllTo {d : Nat} {σ : HP} {a0 : Nat} {x1 : Int32} : callF (d + 1) m_Lift_walkAllTo [.ref a0, .int x1] σ = runF (callF d) d m_Lift_walkAllTo (0, [some (.ref a0), some (.int x1), none, none], [], σ) := callF_in rfl rfl
theorem b_Lift_walkAllTo_0 {C : CF} {d : Nat} {σ : HP} {l0 : Option Value} {l1 : Option Value} {l2 : Option Value} {l3 : Option Value}  : runF C d m_Lift_walkAllTo (0, [l0, l1, l2, l3], [], σ) = runF C d m_Lift_walkAllTo (4, [l0, l1, some (.int ((0 : Int32))), some (.int ((0 : Int32)))], [], σ) := by
  refine (r_iconst (v := (0 : Int32)) (show decode (zb m_Lift_walkAllTo) 0 = .ok (.iconst (0), 1) from by decide +kernel) (by decide)).trans ?_
  refine (r_istoren 2 (show decode (zb m_Lift_walkAllTo) 1 = .ok (.istore_n 2, 1) from by decide +kernel) rfl).trans ?_
  refine (r_iconst (v := (0 : Int32)) (show decode (zb m_Lift_walkAllTo) 2 = .ok (.iconst (0), 1) from by decide +kernel) (by decide)).trans ?_
  exact r_istoren 3 (show decode (zb m_Lift_walkAllTo) 3 = .ok (.istore_n 3, 1) from by decide +kernel) rfl
theorem b_Lift_walkAllTo_4 {C : CF} {d : Nat} {σ : HP} {x3 : Int32} {a0 : Nat} {l1 : Option Value} {l2 : Option Value} (h1 : a0 % 64 = 5) (h2 : (gR σ a0 0).isSome = true) (h3 : (dr (gR σ a0 0)) % 64 = 2) : runF C d m_Lift_walkAllTo (4, [some (.ref a0), l1, l2, some (.int x3)], [], σ) = if (gI σ (dr (gR σ a0 0)) 1) ≤ x3 then runF C d m_Lift_walkAllTo (34, [some (.ref a0), l1, l2, some (.int x3)], [], σ) else runF C d m_Lift_walkAllTo (15, [some (.ref a0), l1, l2, some (.int x3)], [], σ) := by
  refine (r_iloadn 3 (show decode (zb m_Lift_walkAllTo) 4 = .ok (.iload_n 3, 1) from by decide +kernel) rfl).trans ?_
  refine (r_aloadn 0 (show decode (zb m_Lift_walkAllTo) 5 = .ok (.aload_n 0, 1) from by decide +kernel) rfl).trans ?_
  refine (r_getR (show decode (zb m_Lift_walkAllTo) 6 = .ok (.getfield 12, 3) from by decide +kernel) rfl rfl h1 h2).trans ?_
  refine (r_getI (show decode (zb m_Lift_walkAllTo) 9 = .ok (.getfield 72, 3) from by decide +kernel) rfl rfl h3).trans ?_
  exact r_icmp_ge 34 (show decode (zb m_Lift_walkAllTo) 12 = .ok (.if_icmp .ge (22), 3) from by decide +kernel) rfl
theorem b_Lift_walkAllTo_15 {C : CF} {d : Nat} {σ : HP} {x2 : Int32} {a0 : Nat} {x3 : Int32} {l1 : Option Value} (h1 : a0 % 64 = 5) : runF C d m_Lift_walkAllTo (15, [some (.ref a0), l1, some (.int x2), some (.int x3)], [], σ) = bk C d m_Lift_walkAllTo 18 [some (.ref a0), l1, some (.int x2), some (.int x3)] [.int x2] (C m_Lift_placeOf [.ref a0, .int x3] σ) := by
  refine (r_iloadn 2 (show decode (zb m_Lift_walkAllTo) 15 = .ok (.iload_n 2, 1) from by decide +kernel) rfl).trans ?_
  refine (r_aloadn 0 (show decode (zb m_Lift_walkAllTo) 16 = .ok (.aload_n 0, 1) from by decide +kernel) rfl).trans ?_
  refine (r_iloadn 3 (show decode (zb m_Lift_walkAllTo) 17 = .ok (.iload_n 3, 1) from by decide +kernel) rfl).trans ?_
  exact r_virt (args := [.int x3]) (rest := [.int x2]) (show decode (zb m_Lift_walkAllTo) 18 = .ok (.invokevirtual 115, 3) from by decide +kernel) rfl rfl rfl h1
theorem b_Lift_walkAllTo_21 {C : CF} {d : Nat} {σ : HP} {s0 : Int32} {s1 : Int32} {x1 : Int32} {x3 : Int32} {l0 : Option Value} {l2 : Option Value}  : runF C d m_Lift_walkAllTo (21, [l0, some (.int x1), l2, some (.int x3)], [.int s0, .int s1], σ) = runF C d m_Lift_walkAllTo (4, [l0, some (.int x1), some (.int (s1 + (p_abs (s0 - x1)))), some (.int (x3 + (1 : Int32)))], [], σ) := by
  refine (r_iloadn 1 (show decode (zb m_Lift_walkAllTo) 21 = .ok (.iload_n 1, 1) from by decide +kernel) rfl).trans ?_
  refine (r_isub (show decode (zb m_Lift_walkAllTo) 22 = .ok (.isub, 1) from by decide +kernel)).trans ?_
  refine (r_abs (show decode (zb m_Lift_walkAllTo) 23 = .ok (.invokestatic 136, 3) from by decide +kernel) rfl rfl).trans ?_
  refine (r_iadd (show decode (zb m_Lift_walkAllTo) 26 = .ok (.iadd, 1) from by decide +kernel)).trans ?_
  refine (r_istoren 2 (show decode (zb m_Lift_walkAllTo) 27 = .ok (.istore_n 2, 1) from by decide +kernel) rfl).trans ?_
  refine (r_iinc 3 (v := (1 : Int32)) (show decode (zb m_Lift_walkAllTo) 28 = .ok (.iinc 3 (1), 3) from by decide +kernel) rfl rfl (by decide)).trans ?_
  exact r_goto 4 (show decode (zb m_Lift_walkAllTo) 31 = .ok (.goto (-27), 3) from by decide +kernel) rfl
theorem b_Lift_walkAllTo_34 {C : CF} {d : Nat} {σ : HP} {x2 : Int32} {l0 : Option Value} {l1 : Option Value} {l3 : Option Value}  : runF C d m_Lift_walkAllTo (34, [l0, l1, some (.int x2), l3], [], σ) = some (.inl (some (.int x2)), σ) := by
  refine (r_iloadn 2 (show decode (zb m_Lift_walkAllTo) 34 = .ok (.iload_n 2, 1) from by decide +kernel) rfl).trans ?_
  exact r_iret (show decode (zb m_Lift_walkAllTo) 35 = .ok (.ireturn, 1) from by decide +kernel) rfl rfl
theorem e_Lift_heavyIfSaid {d : Nat} {σ : HP} {a0 : Nat} {x1 : Int32} {x2 : Int32} : callF (d + 1) m_Lift_heavyIfSaid [.ref a0, .int x1, .int x2] σ = runF (callF d) d m_Lift_heavyIfSaid (0, [some (.ref a0), some (.int x1), some (.int x2)], [], σ) := callF_in rfl rfl
theorem b_Lift_heavyIfSaid_0 {C : CF} {d : Nat} {σ : HP} {a0 : Nat} {x1 : Int32} {l2 : Option Value} (h1 : a0 % 64 = 5) (h2 : (gR σ a0 0).isSome = true) (h3 : (dr (gR σ a0 0)) % 64 = 2) (h4 : (gR σ (dr (gR σ a0 0)) 5).isSome = true) : runF C d m_Lift_heavyIfSaid (0, [some (.ref a0), some (.int x1), l2], [], σ) = bkN C d m_Lift_heavyIfSaid 8 [some (.ref a0), some (.int x1), l2] [] (C m_PL_at [.ref (dr (gR σ (dr (gR σ a0 0)) 5)), .int x1] σ) := by
  refine (r_aloadn 0 (show decode (zb m_Lift_heavyIfSaid) 0 = .ok (.aload_n 0, 1) from by decide +kernel) rfl).trans ?_
  refine (r_getR (show decode (zb m_Lift_heavyIfSaid) 1 = .ok (.getfield 12, 3) from by decide +kernel) rfl rfl h1 h2).trans ?_
  refine (r_getR (show decode (zb m_Lift_heavyIfSaid) 4 = .ok (.getfield 66, 3) from by decide +kernel) rfl rfl h3 h4).trans ?_
  refine (r_iloadn 1 (show decode (zb m_Lift_heavyIfSaid) 7 = .ok (.iload_n 1, 1) from by decide +kernel) rfl).trans ?_
  exact r_stat (args := [.ref (dr (gR σ (dr (gR σ a0 0)) 5)), .int x1]) (rest := []) (show decode (zb m_Lift_heavyIfSaid) 8 = .ok (.invokestatic 62, 3) from by decide +kernel) rfl (by decide) rfl rfl
theorem b_Lift_heavyIfSaid_11 {C : CF} {d : Nat} {σ : HP} {s0 : Int32} {a0 : Nat} {x1 : Int32} {l2 : Option Value} (h1 : a0 % 64 = 5) (h2 : (gR σ a0 2).isSome = true) (h3 : (dr (gR σ a0 2)) % 64 = 1) (h4 : (gR σ (dr (gR σ a0 2)) 5).isSome = true) : runF C d m_Lift_heavyIfSaid (11, [some (.ref a0), some (.int x1), l2], [.int s0], σ) = bkN C d m_Lift_heavyIfSaid 22 [some (.ref a0), some (.int x1), l2] [.int ((900 : Int32)), .int s0] (C m_PL_at [.ref (dr (gR σ (dr (gR σ a0 2)) 5)), .int x1] σ) := by
  refine (r_sipush (v := (900 : Int32)) (show decode (zb m_Lift_heavyIfSaid) 11 = .ok (.sipush (900), 3) from by decide +kernel) (by decide)).trans ?_
  refine (r_aloadn 0 (show decode (zb m_Lift_heavyIfSaid) 14 = .ok (.aload_n 0, 1) from by decide +kernel) rfl).trans ?_
  refine (r_getR (show decode (zb m_Lift_heavyIfSaid) 15 = .ok (.getfield 28, 3) from by decide +kernel) rfl rfl h1 h2).trans ?_
  refine (r_getR (show decode (zb m_Lift_heavyIfSaid) 18 = .ok (.getfield 69, 3) from by decide +kernel) rfl rfl h3 h4).trans ?_
  refine (r_iloadn 1 (show decode (zb m_Lift_heavyIfSaid) 21 = .ok (.iload_n 1, 1) from by decide +kernel) rfl).trans ?_
  exact r_stat (args := [.ref (dr (gR σ (dr (gR σ a0 2)) 5)), .int x1]) (rest := [.int ((900 : Int32)), .int s0]) (show decode (zb m_Lift_heavyIfSaid) 22 = .ok (.invokestatic 62, 3) from by decide +kernel) rfl (by decide) rfl rfl
theorem b_Lift_heavyIfSaid_25 {C : CF} {d : Nat} {σ : HP} {s0 : Int32} {s1 : Int32} {s2 : Int32} {a0 : Nat} {x1 : Int32} {x2 : Int32} (h1 : a0 % 64 = 5) : runF C d m_Lift_heavyIfSaid (25, [some (.ref a0), some (.int x1), some (.int x2)], [.int s0, .int s1, .int s2], σ) = bk C d m_Lift_heavyIfSaid 28 [some (.ref a0), some (.int x1), some (.int x2)] [.int s0, .int s1, .int s2] (C m_Lift_swellOf [.ref a0, .int x1, .int x2] σ) := by
  refine (r_aloadn 0 (show decode (zb m_Lift_heavyIfSaid) 25 = .ok (.aload_n 0, 1) from by decide +kernel) rfl).trans ?_
  refine (r_iloadn 1 (show decode (zb m_Lift_heavyIfSaid) 26 = .ok (.iload_n 1, 1) from by decide +kernel) rfl).trans ?_
  refine (r_iloadn 2 (show decode (zb m_Lift_heavyIfSaid) 27 = .ok (.iload_n 2, 1) from by decide +kernel) rfl).trans ?_
  exact r_virt (args := [.int x1, .int x2]) (rest := [.int s0, .int s1, .int s2]) (show decode (zb m_Lift_heavyIfSaid) 28 = .ok (.invokevirtual 125, 3) from by decide +kernel) rfl rfl rfl h1
theorem b_Lift_heavyIfSaid_31 {C : CF} {d : Nat} {σ : HP} {s0 : Int32} {s1 : Int32} {s2 : Int32} {s3 : Int32} {l0 : Option Value} {l1 : Option Value} {l2 : Option Value}  : runF C d m_Lift_heavyIfSaid (31, [l0, l1, l2], [.int s0, .int s1, .int s2, .int s3], σ) = some (.inl (some (.int (s3 + (p_min s2 (s1 + s0))))), σ) := by
  refine (r_iadd (show decode (zb m_Lift_heavyIfSaid) 31 = .ok (.iadd, 1) from by decide +kernel)).trans ?_
  refine (r_min (show decode (zb m_Lift_heavyIfSaid) 32 = .ok (.invokestatic 128, 3) from by decide +kernel) rfl rfl).trans ?_
  refine (r_iadd (show decode (zb m_Lift_heavyIfSaid) 35 = .ok (.iadd, 1) from by decide +kernel)).trans ?_
  exact r_iret (show decode (zb m_Lift_heavyIfSaid) 36 = .ok (.ireturn, 1) from by decide +kernel) rfl rfl
theorem e_Lift_breathBound {d : Nat} {σ : HP} {a0 : Nat} {x1 : Int32} {x2 : Int32} : callF (d + 1) m_Lift_breathBound [.ref a0, .int x1, .int x2] σ = runF (callF d) d m_Lift_breathBound (0, [some (.ref a0), some (.int x1), some (.int x2), none, none], [], σ) := callF_in rfl rfl
theorem b_Lift_breathBound_0 {C : CF} {d : Nat} {σ : HP} {l0 : Option Value} {l1 : Option Value} {l2 : Option Value} {l3 : Option Value} {l4 : Option Value}  : runF C d m_Lift_breathBound (0, [l0, l1, l2, l3, l4], [], σ) = runF C d m_Lift_breathBound (7, [l0, l1, l2, some (.int ((0 : Int32))), some (.int ((512 : Int32)))], [], σ) := by
  refine (r_iconst (v := (0 : Int32)) (show decode (zb m_Lift_breathBound) 0 = .ok (.iconst (0), 1) from by decide +kernel) (by decide)).trans ?_
  refine (r_istoren 3 (show decode (zb m_Lift_breathBound) 1 = .ok (.istore_n 3, 1) from by decide +kernel) rfl).trans ?_
  refine (r_sipush (v := (512 : Int32)) (show decode (zb m_Lift_breathBound) 2 = .ok (.sipush (512), 3) from by decide +kernel) (by decide)).trans ?_
  exact r_istore 4 (show decode (zb m_Lift_breathBound) 5 = .ok (.istore 4, 2) from by decide +kernel) rfl
theorem b_Lift_breathBound_7 {C : CF} {d : Nat} {σ : HP} {x4 : Int32} {l0 : Option Value} {l1 : Option Value} {l2 : Option Value} {l3 : Option Value}  : runF C d m_Lift_breathBound (7, [l0, l1, l2, l3, some (.int x4)], [], σ) = if x4 ≤ 0 then runF C d m_Lift_breathBound (49, [l0, l1, l2, l3, some (.int x4)], [], σ) else runF C d m_Lift_breathBound (12, [l0, l1, l2, l3, some (.int x4)], [], σ) := by
  refine (r_iload 4 (show decode (zb m_Lift_breathBound) 7 = .ok (.iload 4, 2) from by decide +kernel) rfl).trans ?_
  exact r_if_le 49 (show decode (zb m_Lift_breathBound) 9 = .ok (.ifCond .le (40), 3) from by decide +kernel) rfl
theorem b_Lift_breathBound_12 {C : CF} {d : Nat} {σ : HP} {x3 : Int32} {x4 : Int32} {l0 : Option Value} {l1 : Option Value} {l2 : Option Value}  : runF C d m_Lift_breathBound (12, [l0, l1, l2, some (.int x3), some (.int x4)], [], σ) = if (900 : Int32) < (x3 + x4) then runF C d m_Lift_breathBound (40, [l0, l1, l2, some (.int x3), some (.int x4)], [], σ) else runF C d m_Lift_breathBound (22, [l0, l1, l2, some (.int x3), some (.int x4)], [], σ) := by
  refine (r_iloadn 3 (show decode (zb m_Lift_breathBound) 12 = .ok (.iload_n 3, 1) from by decide +kernel) rfl).trans ?_
  refine (r_iload 4 (show decode (zb m_Lift_breathBound) 13 = .ok (.iload 4, 2) from by decide +kernel) rfl).trans ?_
  refine (r_iadd (show decode (zb m_Lift_breathBound) 15 = .ok (.iadd, 1) from by decide +kernel)).trans ?_
  refine (r_sipush (v := (900 : Int32)) (show decode (zb m_Lift_breathBound) 16 = .ok (.sipush (900), 3) from by decide +kernel) (by decide)).trans ?_
  exact r_icmp_gt 40 (show decode (zb m_Lift_breathBound) 19 = .ok (.if_icmp .gt (21), 3) from by decide +kernel) rfl
theorem b_Lift_breathBound_22 {C : CF} {d : Nat} {σ : HP} {a0 : Nat} {x1 : Int32} {x3 : Int32} {x4 : Int32} {l2 : Option Value} (h1 : a0 % 64 = 5) : runF C d m_Lift_breathBound (22, [some (.ref a0), some (.int x1), l2, some (.int x3), some (.int x4)], [], σ) = bk C d m_Lift_breathBound 28 [some (.ref a0), some (.int x1), l2, some (.int x3), some (.int x4)] [] (C m_Lift_givenBy [.ref a0, .int x1, .int (x3 + x4)] σ) := by
  refine (r_aloadn 0 (show decode (zb m_Lift_breathBound) 22 = .ok (.aload_n 0, 1) from by decide +kernel) rfl).trans ?_
  refine (r_iloadn 1 (show decode (zb m_Lift_breathBound) 23 = .ok (.iload_n 1, 1) from by decide +kernel) rfl).trans ?_
  refine (r_iloadn 3 (show decode (zb m_Lift_breathBound) 24 = .ok (.iload_n 3, 1) from by decide +kernel) rfl).trans ?_
  refine (r_iload 4 (show decode (zb m_Lift_breathBound) 25 = .ok (.iload 4, 2) from by decide +kernel) rfl).trans ?_
  refine (r_iadd (show decode (zb m_Lift_breathBound) 27 = .ok (.iadd, 1) from by decide +kernel)).trans ?_
  exact r_virt (args := [.int x1, .int (x3 + x4)]) (rest := []) (show decode (zb m_Lift_breathBound) 28 = .ok (.invokevirtual 151, 3) from by decide +kernel) rfl rfl rfl h1
theorem b_Lift_breathBound_31 {C : CF} {d : Nat} {σ : HP} {s0 : Int32} {x2 : Int32} {l0 : Option Value} {l1 : Option Value} {l3 : Option Value} {l4 : Option Value}  : runF C d m_Lift_breathBound (31, [l0, l1, some (.int x2), l3, l4], [.int s0], σ) = if x2 < s0 then runF C d m_Lift_breathBound (40, [l0, l1, some (.int x2), l3, l4], [], σ) else runF C d m_Lift_breathBound (35, [l0, l1, some (.int x2), l3, l4], [], σ) := by
  refine (r_iloadn 2 (show decode (zb m_Lift_breathBound) 31 = .ok (.iload_n 2, 1) from by decide +kernel) rfl).trans ?_
  exact r_icmp_gt 40 (show decode (zb m_Lift_breathBound) 32 = .ok (.if_icmp .gt (8), 3) from by decide +kernel) rfl
theorem b_Lift_breathBound_35 {C : CF} {d : Nat} {σ : HP} {x3 : Int32} {x4 : Int32} {l0 : Option Value} {l1 : Option Value} {l2 : Option Value}  : runF C d m_Lift_breathBound (35, [l0, l1, l2, some (.int x3), some (.int x4)], [], σ) = runF C d m_Lift_breathBound (40, [l0, l1, l2, some (.int (x3 + x4)), some (.int x4)], [], σ) := by
  refine (r_iloadn 3 (show decode (zb m_Lift_breathBound) 35 = .ok (.iload_n 3, 1) from by decide +kernel) rfl).trans ?_
  refine (r_iload 4 (show decode (zb m_Lift_breathBound) 36 = .ok (.iload 4, 2) from by decide +kernel) rfl).trans ?_
  refine (r_iadd (show decode (zb m_Lift_breathBound) 38 = .ok (.iadd, 1) from by decide +kernel)).trans ?_
  exact r_istoren 3 (show decode (zb m_Lift_breathBound) 39 = .ok (.istore_n 3, 1) from by decide +kernel) rfl
theorem b_Lift_breathBound_40 {C : CF} {d : Nat} {σ : HP} {x4 : Int32} {l0 : Option Value} {l1 : Option Value} {l2 : Option Value} {l3 : Option Value}  : runF C d m_Lift_breathBound (40, [l0, l1, l2, l3, some (.int x4)], [], σ) = runF C d m_Lift_breathBound (7, [l0, l1, l2, l3, some (.int (x4 / (2 : Int32)))], [], σ) := by
  refine (r_iload 4 (show decode (zb m_Lift_breathBound) 40 = .ok (.iload 4, 2) from by decide +kernel) rfl).trans ?_
  refine (r_iconst (v := (2 : Int32)) (show decode (zb m_Lift_breathBound) 42 = .ok (.iconst (2), 1) from by decide +kernel) (by decide)).trans ?_
  refine (r_idiv (show decode (zb m_Lift_breathBound) 43 = .ok (.idiv, 1) from by decide +kernel) (by decide)).trans ?_
  refine (r_istore 4 (show decode (zb m_Lift_breathBound) 44 = .ok (.istore 4, 2) from by decide +kernel) rfl).trans ?_
  exact r_goto 7 (show decode (zb m_Lift_breathBound) 46 = .ok (.goto (-39), 3) from by decide +kernel) rfl
theorem b_Lift_breathBound_49 {C : CF} {d : Nat} {σ : HP} {x3 : Int32} {l0 : Option Value} {l1 : Option Value} {l2 : Option Value} {l4 : Option Value}  : runF C d m_Lift_breathBound (49, [l0, l1, l2, some (.int x3), l4], [], σ) = some (.inl (some (.int x3)), σ) := by
  refine (r_iloadn 3 (show decode (zb m_Lift_breathBound) 49 = .ok (.iload_n 3, 1) from by decide +kernel) rfl).trans ?_
  exact r_iret (show decode (zb m_Lift_breathBound) 50 = .ok (.ireturn, 1) from by decide +kernel) rfl rfl
theorem e_Lift_givenBy {d : Nat} {σ : HP} {a0 : Nat} {x1 : Int32} {x2 : Int32} : callF (d + 1) m_Lift_givenBy [.ref a0, .int x1, .int x2] σ = runF (callF d) d m_Lift_givenBy (0, [some (.ref a0), some (.int x1), some (.int x2), none, none], [], σ) := callF_in rfl rfl
theorem b_Lift_givenBy_0 {C : CF} {d : Nat} {σ : HP} {l0 : Option Value} {l1 : Option Value} {l2 : Option Value} {l3 : Option Value} {l4 : Option Value}  : runF C d m_Lift_givenBy (0, [l0, l1, l2, l3, l4], [], σ) = runF C d m_Lift_givenBy (5, [l0, l1, l2, some (.int ((0 : Int32))), some (.int ((0 : Int32)))], [], σ) := by
  refine (r_iconst (v := (0 : Int32)) (show decode (zb m_Lift_givenBy) 0 = .ok (.iconst (0), 1) from by decide +kernel) (by decide)).trans ?_
  refine (r_istoren 3 (show decode (zb m_Lift_givenBy) 1 = .ok (.istore_n 3, 1) from by decide +kernel) rfl).trans ?_
  refine (r_iconst (v := (0 : Int32)) (show decode (zb m_Lift_givenBy) 2 = .ok (.iconst (0), 1) from by decide +kernel) (by decide)).trans ?_
  exact r_istore 4 (show decode (zb m_Lift_givenBy) 3 = .ok (.istore 4, 2) from by decide +kernel) rfl
theorem b_Lift_givenBy_5 {C : CF} {d : Nat} {σ : HP} {x4 : Int32} {a0 : Nat} {l1 : Option Value} {l2 : Option Value} {l3 : Option Value} (h1 : a0 % 64 = 5) (h2 : (gR σ a0 0).isSome = true) (h3 : (dr (gR σ a0 0)) % 64 = 2) : runF C d m_Lift_givenBy (5, [some (.ref a0), l1, l2, l3, some (.int x4)], [], σ) = if (gI σ (dr (gR σ a0 0)) 1) ≤ x4 then runF C d m_Lift_givenBy (51, [some (.ref a0), l1, l2, l3, some (.int x4)], [], σ) else runF C d m_Lift_givenBy (17, [some (.ref a0), l1, l2, l3, some (.int x4)], [], σ) := by
  refine (r_iload 4 (show decode (zb m_Lift_givenBy) 5 = .ok (.iload 4, 2) from by decide +kernel) rfl).trans ?_
  refine (r_aloadn 0 (show decode (zb m_Lift_givenBy) 7 = .ok (.aload_n 0, 1) from by decide +kernel) rfl).trans ?_
  refine (r_getR (show decode (zb m_Lift_givenBy) 8 = .ok (.getfield 12, 3) from by decide +kernel) rfl rfl h1 h2).trans ?_
  refine (r_getI (show decode (zb m_Lift_givenBy) 11 = .ok (.getfield 72, 3) from by decide +kernel) rfl rfl h3).trans ?_
  exact r_icmp_ge 51 (show decode (zb m_Lift_givenBy) 14 = .ok (.if_icmp .ge (37), 3) from by decide +kernel) rfl
theorem b_Lift_givenBy_17 {C : CF} {d : Nat} {σ : HP} {x1 : Int32} {x4 : Int32} {l0 : Option Value} {l2 : Option Value} {l3 : Option Value}  : runF C d m_Lift_givenBy (17, [l0, some (.int x1), l2, l3, some (.int x4)], [], σ) = bkN C d m_Lift_givenBy 20 [l0, some (.int x1), l2, l3, some (.int x4)] [] (C m_PL_isIn [.int x1, .int x4] σ) := by
  refine (r_iloadn 1 (show decode (zb m_Lift_givenBy) 17 = .ok (.iload_n 1, 1) from by decide +kernel) rfl).trans ?_
  refine (r_iload 4 (show decode (zb m_Lift_givenBy) 18 = .ok (.iload 4, 2) from by decide +kernel) rfl).trans ?_
  exact r_stat (args := [.int x1, .int x4]) (rest := []) (show decode (zb m_Lift_givenBy) 20 = .ok (.invokestatic 47, 3) from by decide +kernel) rfl (by decide) rfl rfl
theorem b_Lift_givenBy_23 {C : CF} {d : Nat} {σ : HP} {s0 : Int32} {l0 : Option Value} {l1 : Option Value} {l2 : Option Value} {l3 : Option Value} {l4 : Option Value}  : runF C d m_Lift_givenBy (23, [l0, l1, l2, l3, l4], [.int s0], σ) = if s0 = 0 then runF C d m_Lift_givenBy (45, [l0, l1, l2, l3, l4], [], σ) else runF C d m_Lift_givenBy (26, [l0, l1, l2, l3, l4], [], σ) := by
  exact r_if_eq 45 (show decode (zb m_Lift_givenBy) 23 = .ok (.ifCond .eq (22), 3) from by decide +kernel) rfl
theorem b_Lift_givenBy_26 {C : CF} {d : Nat} {σ : HP} {x3 : Int32} {x2 : Int32} {a0 : Nat} {x4 : Int32} {l1 : Option Value} (h1 : a0 % 64 = 5) (h2 : (gR σ a0 2).isSome = true) (h3 : (dr (gR σ a0 2)) % 64 = 1) (h4 : (gR σ (dr (gR σ a0 2)) 5).isSome = true) : runF C d m_Lift_givenBy (26, [some (.ref a0), l1, some (.int x2), some (.int x3), some (.int x4)], [], σ) = bkN C d m_Lift_givenBy 37 [some (.ref a0), l1, some (.int x2), some (.int x3), some (.int x4)] [.int x2, .int x3] (C m_PL_at [.ref (dr (gR σ (dr (gR σ a0 2)) 5)), .int x4] σ) := by
  refine (r_iloadn 3 (show decode (zb m_Lift_givenBy) 26 = .ok (.iload_n 3, 1) from by decide +kernel) rfl).trans ?_
  refine (r_iloadn 2 (show decode (zb m_Lift_givenBy) 27 = .ok (.iload_n 2, 1) from by decide +kernel) rfl).trans ?_
  refine (r_aloadn 0 (show decode (zb m_Lift_givenBy) 28 = .ok (.aload_n 0, 1) from by decide +kernel) rfl).trans ?_
  refine (r_getR (show decode (zb m_Lift_givenBy) 29 = .ok (.getfield 28, 3) from by decide +kernel) rfl rfl h1 h2).trans ?_
  refine (r_getR (show decode (zb m_Lift_givenBy) 32 = .ok (.getfield 69, 3) from by decide +kernel) rfl rfl h3 h4).trans ?_
  refine (r_iload 4 (show decode (zb m_Lift_givenBy) 35 = .ok (.iload 4, 2) from by decide +kernel) rfl).trans ?_
  exact r_stat (args := [.ref (dr (gR σ (dr (gR σ a0 2)) 5)), .int x4]) (rest := [.int x2, .int x3]) (show decode (zb m_Lift_givenBy) 37 = .ok (.invokestatic 62, 3) from by decide +kernel) rfl (by decide) rfl rfl
theorem b_Lift_givenBy_40 {C : CF} {d : Nat} {σ : HP} {s0 : Int32} {s1 : Int32} {s2 : Int32} {l0 : Option Value} {l1 : Option Value} {l2 : Option Value} {l3 : Option Value} {l4 : Option Value}  : runF C d m_Lift_givenBy (40, [l0, l1, l2, l3, l4], [.int s0, .int s1, .int s2], σ) = runF C d m_Lift_givenBy (45, [l0, l1, l2, some (.int (s2 + (p_min s1 s0))), l4], [], σ) := by
  refine (r_min (show decode (zb m_Lift_givenBy) 40 = .ok (.invokestatic 128, 3) from by decide +kernel) rfl rfl).trans ?_
  refine (r_iadd (show decode (zb m_Lift_givenBy) 43 = .ok (.iadd, 1) from by decide +kernel)).trans ?_
  exact r_istoren 3 (show decode (zb m_Lift_givenBy) 44 = .ok (.istore_n 3, 1) from by decide +kernel) rfl
theorem b_Lift_givenBy_45 {C : CF} {d : Nat} {σ : HP} {x4 : Int32} {l0 : Option Value} {l1 : Option Value} {l2 : Option Value} {l3 : Option Value}  : runF C d m_Lift_givenBy (45, [l0, l1, l2, l3, some (.int x4)], [], σ) = runF C d m_Lift_givenBy (5, [l0, l1, l2, l3, some (.int (x4 + (1 : Int32)))], [], σ) := by
  refine (r_iinc 4 (v := (1 : Int32)) (show decode (zb m_Lift_givenBy) 45 = .ok (.iinc 4 (1), 3) from by decide +kernel) rfl rfl (by decide)).trans ?_
  exact r_goto 5 (show decode (zb m_Lift_givenBy) 48 = .ok (.goto (-43), 3) from by decide +kernel) rfl
theorem b_Lift_givenBy_51 {C : CF} {d : Nat} {σ : HP} {x3 : Int32} {l0 : Option Value} {l1 : Option Value} {l2 : Option Value} {l4 : Option Value}  : runF C d m_Lift_givenBy (51, [l0, l1, l2, some (.int x3), l4], [], σ) = some (.inl (some (.int x3)), σ) := by
  refine (r_iloadn 3 (show decode (zb m_Lift_givenBy) 51 = .ok (.iload_n 3, 1) from by decide +kernel) rfl).trans ?_
  exact r_iret (show decode (zb m_Lift_givenBy) 52 = .ok (.ireturn, 1) from by decide +kernel) rfl rfl
theorem e_Lift_mostSwelling {d : Nat} {σ : HP} {a0 : Nat} {x1 : Int32} {x2 : Int32} : callF (d + 1) m_Lift_mostSwelling [.ref a0, .int x1, .int x2] σ = runF (callF d) d m_Lift_mostSwelling (0, [some (.ref a0), some (.int x1), some (.int x2), none, none, none, none], [], σ) := callF_in rfl rfl
theorem b_Lift_mostSwelling_0 {C : CF} {d : Nat} {σ : HP} {l0 : Option Value} {l1 : Option Value} {l2 : Option Value} {l3 : Option Value} {l4 : Option Value} {l5 : Option Value} {l6 : Option Value}  : runF C d m_Lift_mostSwelling (0, [l0, l1, l2, l3, l4, l5, l6], [], σ) = runF C d m_Lift_mostSwelling (8, [l0, l1, l2, some (.int ((-1 : Int32))), some (.int ((-1 : Int32))), some (.int ((0 : Int32))), l6], [], σ) := by
  refine (r_iconst (v := (-1 : Int32)) (show decode (zb m_Lift_mostSwelling) 0 = .ok (.iconst (-1), 1) from by decide +kernel) (by decide)).trans ?_
  refine (r_istoren 3 (show decode (zb m_Lift_mostSwelling) 1 = .ok (.istore_n 3, 1) from by decide +kernel) rfl).trans ?_
  refine (r_iconst (v := (-1 : Int32)) (show decode (zb m_Lift_mostSwelling) 2 = .ok (.iconst (-1), 1) from by decide +kernel) (by decide)).trans ?_
  refine (r_istore 4 (show decode (zb m_Lift_mostSwelling) 3 = .ok (.istore 4, 2) from by decide +kernel) rfl).trans ?_
  refine (r_iconst (v := (0 : Int32)) (show decode (zb m_Lift_mostSwelling) 5 = .ok (.iconst (0), 1) from by decide +kernel) (by decide)).trans ?_
  exact r_istore 5 (show decode (zb m_Lift_mostSwelling) 6 = .ok (.istore 5, 2) from by decide +kernel) rfl
theorem b_Lift_mostSwelling_8 {C : CF} {d : Nat} {σ : HP} {x5 : Int32} {a0 : Nat} {l1 : Option Value} {l2 : Option Value} {l3 : Option Value} {l4 : Option Value} {l6 : Option Value} (h1 : a0 % 64 = 5) (h2 : (gR σ a0 0).isSome = true) (h3 : (dr (gR σ a0 0)) % 64 = 2) : runF C d m_Lift_mostSwelling (8, [some (.ref a0), l1, l2, l3, l4, some (.int x5), l6], [], σ) = if (gI σ (dr (gR σ a0 0)) 2) ≤ x5 then runF C d m_Lift_mostSwelling (62, [some (.ref a0), l1, l2, l3, l4, some (.int x5), l6], [], σ) else runF C d m_Lift_mostSwelling (20, [some (.ref a0), l1, l2, l3, l4, some (.int x5), l6], [], σ) := by
  refine (r_iload 5 (show decode (zb m_Lift_mostSwelling) 8 = .ok (.iload 5, 2) from by decide +kernel) rfl).trans ?_
  refine (r_aloadn 0 (show decode (zb m_Lift_mostSwelling) 10 = .ok (.aload_n 0, 1) from by decide +kernel) rfl).trans ?_
  refine (r_getR (show decode (zb m_Lift_mostSwelling) 11 = .ok (.getfield 12, 3) from by decide +kernel) rfl rfl h1 h2).trans ?_
  refine (r_getI (show decode (zb m_Lift_mostSwelling) 14 = .ok (.getfield 99, 3) from by decide +kernel) rfl rfl h3).trans ?_
  exact r_icmp_ge 62 (show decode (zb m_Lift_mostSwelling) 17 = .ok (.if_icmp .ge (45), 3) from by decide +kernel) rfl
theorem b_Lift_mostSwelling_20 {C : CF} {d : Nat} {σ : HP} {x2 : Int32} {x5 : Int32} {l0 : Option Value} {l1 : Option Value} {l3 : Option Value} {l4 : Option Value} {l6 : Option Value}  : runF C d m_Lift_mostSwelling (20, [l0, l1, some (.int x2), l3, l4, some (.int x5), l6], [], σ) = bkN C d m_Lift_mostSwelling 23 [l0, l1, some (.int x2), l3, l4, some (.int x5), l6] [] (C m_PL_isIn [.int x2, .int x5] σ) := by
  refine (r_iloadn 2 (show decode (zb m_Lift_mostSwelling) 20 = .ok (.iload_n 2, 1) from by decide +kernel) rfl).trans ?_
  refine (r_iload 5 (show decode (zb m_Lift_mostSwelling) 21 = .ok (.iload 5, 2) from by decide +kernel) rfl).trans ?_
  exact r_stat (args := [.int x2, .int x5]) (rest := []) (show decode (zb m_Lift_mostSwelling) 23 = .ok (.invokestatic 47, 3) from by decide +kernel) rfl (by decide) rfl rfl
theorem b_Lift_mostSwelling_26 {C : CF} {d : Nat} {σ : HP} {s0 : Int32} {l0 : Option Value} {l1 : Option Value} {l2 : Option Value} {l3 : Option Value} {l4 : Option Value} {l5 : Option Value} {l6 : Option Value}  : runF C d m_Lift_mostSwelling (26, [l0, l1, l2, l3, l4, l5, l6], [.int s0], σ) = if s0 = 0 then runF C d m_Lift_mostSwelling (33, [l0, l1, l2, l3, l4, l5, l6], [], σ) else runF C d m_Lift_mostSwelling (29, [l0, l1, l2, l3, l4, l5, l6], [], σ) := by
  exact r_if_eq 33 (show decode (zb m_Lift_mostSwelling) 26 = .ok (.ifCond .eq (7), 3) from by decide +kernel) rfl
theorem b_Lift_mostSwelling_29 {C : CF} {d : Nat} {σ : HP} {l0 : Option Value} {l1 : Option Value} {l2 : Option Value} {l3 : Option Value} {l4 : Option Value} {l5 : Option Value} {l6 : Option Value}  : runF C d m_Lift_mostSwelling (29, [l0, l1, l2, l3, l4, l5, l6], [], σ) = runF C d m_Lift_mostSwelling (40, [l0, l1, l2, l3, l4, l5, l6], [.int ((-1 : Int32))], σ) := by
  refine (r_iconst (v := (-1 : Int32)) (show decode (zb m_Lift_mostSwelling) 29 = .ok (.iconst (-1), 1) from by decide +kernel) (by decide)).trans ?_
  exact r_goto 40 (show decode (zb m_Lift_mostSwelling) 30 = .ok (.goto (10), 3) from by decide +kernel) rfl
theorem b_Lift_mostSwelling_33 {C : CF} {d : Nat} {σ : HP} {a0 : Nat} {x1 : Int32} {x5 : Int32} {l2 : Option Value} {l3 : Option Value} {l4 : Option Value} {l6 : Option Value} (h1 : a0 % 64 = 5) : runF C d m_Lift_mostSwelling (33, [some (.ref a0), some (.int x1), l2, l3, l4, some (.int x5), l6], [], σ) = bk C d m_Lift_mostSwelling 37 [some (.ref a0), some (.int x1), l2, l3, l4, some (.int x5), l6] [] (C m_Lift_swellOf [.ref a0, .int x1, .int x5] σ) := by
  refine (r_aloadn 0 (show decode (zb m_Lift_mostSwelling) 33 = .ok (.aload_n 0, 1) from by decide +kernel) rfl).trans ?_
  refine (r_iloadn 1 (show decode (zb m_Lift_mostSwelling) 34 = .ok (.iload_n 1, 1) from by decide +kernel) rfl).trans ?_
  refine (r_iload 5 (show decode (zb m_Lift_mostSwelling) 35 = .ok (.iload 5, 2) from by decide +kernel) rfl).trans ?_
  exact r_virt (args := [.int x1, .int x5]) (rest := []) (show decode (zb m_Lift_mostSwelling) 37 = .ok (.invokevirtual 125, 3) from by decide +kernel) rfl rfl rfl h1
theorem b_Lift_mostSwelling_40 {C : CF} {d : Nat} {σ : HP} {s0 : Int32} {x4 : Int32} {l0 : Option Value} {l1 : Option Value} {l2 : Option Value} {l3 : Option Value} {l5 : Option Value} {l6 : Option Value}  : runF C d m_Lift_mostSwelling (40, [l0, l1, l2, l3, some (.int x4), l5, l6], [.int s0], σ) = if s0 ≤ x4 then runF C d m_Lift_mostSwelling (56, [l0, l1, l2, l3, some (.int x4), l5, some (.int s0)], [], σ) else runF C d m_Lift_mostSwelling (49, [l0, l1, l2, l3, some (.int x4), l5, some (.int s0)], [], σ) := by
  refine (r_istore 6 (show decode (zb m_Lift_mostSwelling) 40 = .ok (.istore 6, 2) from by decide +kernel) rfl).trans ?_
  refine (r_iload 6 (show decode (zb m_Lift_mostSwelling) 42 = .ok (.iload 6, 2) from by decide +kernel) rfl).trans ?_
  refine (r_iload 4 (show decode (zb m_Lift_mostSwelling) 44 = .ok (.iload 4, 2) from by decide +kernel) rfl).trans ?_
  exact r_icmp_le 56 (show decode (zb m_Lift_mostSwelling) 46 = .ok (.if_icmp .le (10), 3) from by decide +kernel) rfl
theorem b_Lift_mostSwelling_49 {C : CF} {d : Nat} {σ : HP} {x5 : Int32} {x6 : Int32} {l0 : Option Value} {l1 : Option Value} {l2 : Option Value} {l3 : Option Value} {l4 : Option Value}  : runF C d m_Lift_mostSwelling (49, [l0, l1, l2, l3, l4, some (.int x5), some (.int x6)], [], σ) = runF C d m_Lift_mostSwelling (56, [l0, l1, l2, some (.int x5), some (.int x6), some (.int x5), some (.int x6)], [], σ) := by
  refine (r_iload 5 (show decode (zb m_Lift_mostSwelling) 49 = .ok (.iload 5, 2) from by decide +kernel) rfl).trans ?_
  refine (r_istoren 3 (show decode (zb m_Lift_mostSwelling) 51 = .ok (.istore_n 3, 1) from by decide +kernel) rfl).trans ?_
  refine (r_iload 6 (show decode (zb m_Lift_mostSwelling) 52 = .ok (.iload 6, 2) from by decide +kernel) rfl).trans ?_
  exact r_istore 4 (show decode (zb m_Lift_mostSwelling) 54 = .ok (.istore 4, 2) from by decide +kernel) rfl
theorem b_Lift_mostSwelling_56 {C : CF} {d : Nat} {σ : HP} {x5 : Int32} {l0 : Option Value} {l1 : Option Value} {l2 : Option Value} {l3 : Option Value} {l4 : Option Value} {l6 : Option Value}  : runF C d m_Lift_mostSwelling (56, [l0, l1, l2, l3, l4, some (.int x5), l6], [], σ) = runF C d m_Lift_mostSwelling (8, [l0, l1, l2, l3, l4, some (.int (x5 + (1 : Int32))), l6], [], σ) := by
  refine (r_iinc 5 (v := (1 : Int32)) (show decode (zb m_Lift_mostSwelling) 56 = .ok (.iinc 5 (1), 3) from by decide +kernel) rfl rfl (by decide)).trans ?_
  exact r_goto 8 (show decode (zb m_Lift_mostSwelling) 59 = .ok (.goto (-51), 3) from by decide +kernel) rfl
theorem b_Lift_mostSwelling_62 {C : CF} {d : Nat} {σ : HP} {x3 : Int32} {l0 : Option Value} {l1 : Option Value} {l2 : Option Value} {l4 : Option Value} {l5 : Option Value} {l6 : Option Value}  : runF C d m_Lift_mostSwelling (62, [l0, l1, l2, some (.int x3), l4, l5, l6], [], σ) = some (.inl (some (.int x3)), σ) := by
  refine (r_iloadn 3 (show decode (zb m_Lift_mostSwelling) 62 = .ok (.iload_n 3, 1) from by decide +kernel) rfl).trans ?_
  exact r_iret (show decode (zb m_Lift_mostSwelling) 63 = .ok (.ireturn, 1) from by decide +kernel) rfl rfl
theorem e_Lift_ridesOfAll {d : Nat} {σ : HP} {a0 : Nat} : callF (d + 1) m_Lift_ridesOfAll [.ref a0] σ = runF (callF d) d m_Lift_ridesOfAll (0, [some (.ref a0)], [], σ) := callF_in rfl rfl
theorem b_Lift_ridesOfAll_0 {C : CF} {d : Nat} {σ : HP} {a0 : Nat} (h1 : a0 % 64 = 5) (h2 : (gR σ a0 2).isSome = true) (h3 : (dr (gR σ a0 2)) % 64 = 1) (h4 : (gR σ (dr (gR σ a0 2)) 6).isSome = true) : runF C d m_Lift_ridesOfAll (0, [some (.ref a0)], [], σ) = bk C d m_Lift_ridesOfAll 8 [some (.ref a0)] [] (C m_Lift_sumOfMen [.ref a0, .ref (dr (gR σ (dr (gR σ a0 2)) 6))] σ) := by
  refine (r_aloadn 0 (show decode (zb m_Lift_ridesOfAll) 0 = .ok (.aload_n 0, 1) from by decide +kernel) rfl).trans ?_
  refine (r_aloadn 0 (show decode (zb m_Lift_ridesOfAll) 1 = .ok (.aload_n 0, 1) from by decide +kernel) rfl).trans ?_
  refine (r_getR (show decode (zb m_Lift_ridesOfAll) 2 = .ok (.getfield 28, 3) from by decide +kernel) rfl rfl h1 h2).trans ?_
  refine (r_getR (show decode (zb m_Lift_ridesOfAll) 5 = .ok (.getfield 86, 3) from by decide +kernel) rfl rfl h3 h4).trans ?_
  exact r_virt (args := [.ref (dr (gR σ (dr (gR σ a0 2)) 6))]) (rest := []) (show decode (zb m_Lift_ridesOfAll) 8 = .ok (.invokevirtual 82, 3) from by decide +kernel) rfl rfl rfl h1
theorem b_Lift_ridesOfAll_11 {C : CF} {d : Nat} {σ : HP} {s0 : Int32} {l0 : Option Value}  : runF C d m_Lift_ridesOfAll (11, [l0], [.int s0], σ) = some (.inl (some (.int s0)), σ) := by
  exact r_iret (show decode (zb m_Lift_ridesOfAll) 11 = .ok (.ireturn, 1) from by decide +kernel) rfl rfl
