/-! BLOCKS: what the code of each method does from one place of branching, calling or ending to the next (generated) -/
theorem e_PL_init {d : Nat} {σ : HP} {a0 : Nat} : callF (d + 1) m_PL_init [.ref a0] σ = runF (callF d) d m_PL_init (0, [some (.ref a0)], [], σ) := callF_in rfl rfl
theorem b_PL_init_0 {C : CF} {d : Nat} {σ : HP} {a0 : Nat} (h1 : a0 % 64 = 11) : runF C d m_PL_init (0, [some (.ref a0)], [], σ) = bkN C d m_PL_init 9 [some (.ref a0)] [.ref (7 + 64 * hN σ), .ref a0] (C m_Reader_init [.ref (7 + 64 * hN σ)] (hA σ 7 6)) := by
  refine (r_aloadn 0 (show decode (zb m_PL_init) 0 = .ok (.aload_n 0, 1) from by decide +kernel) rfl).trans ?_
  refine (r_obj (show decode (zb m_PL_init) 1 = .ok (.invokespecial 1, 3) from by decide +kernel) rfl (by have := h1; omega) rfl).trans ?_
  refine (r_aloadn 0 (show decode (zb m_PL_init) 4 = .ok (.aload_n 0, 1) from by decide +kernel) rfl).trans ?_
  refine (r_new (ci := 7) (show decode (zb m_PL_init) 5 = .ok (.new 7, 3) from by decide +kernel) rfl).trans ?_
  refine (r_dupR (show decode (zb m_PL_init) 8 = .ok (.dup, 1) from by decide +kernel)).trans ?_
  exact r_spec (args := []) (rest := [.ref (7 + 64 * hN σ), .ref a0]) (show decode (zb m_PL_init) 9 = .ok (.invokespecial 9, 3) from by decide +kernel) rfl (by decide) rfl rfl (show (7 + 64 * hN σ) % 64 = 7 from by omega)
theorem b_PL_init_12 {C : CF} {d : Nat} {σ : HP} {r0 : Nat} {r1 : Nat} {a0 : Nat} (h1 : r1 % 64 = 11) : runF C d m_PL_init (12, [some (.ref a0)], [.ref r0, .ref r1], σ) = bkN C d m_PL_init 20 [some (.ref a0)] [.ref (5 + 64 * hN σ), .ref a0] (C m_Lift_init [.ref (5 + 64 * hN σ)] (hA (wR σ r1 0 (some r0)) 5 3)) := by
  refine (r_putR (show decode (zb m_PL_init) 12 = .ok (.putfield 10, 3) from by decide +kernel) rfl rfl rfl h1).trans ?_
  refine (r_aloadn 0 (show decode (zb m_PL_init) 15 = .ok (.aload_n 0, 1) from by decide +kernel) rfl).trans ?_
  refine (r_new (ci := 5) (show decode (zb m_PL_init) 16 = .ok (.new 16, 3) from by decide +kernel) rfl).trans ?_
  refine (r_dupR (show decode (zb m_PL_init) 19 = .ok (.dup, 1) from by decide +kernel)).trans ?_
  exact r_spec (args := []) (rest := [.ref (5 + 64 * hN σ), .ref a0]) (show decode (zb m_PL_init) 20 = .ok (.invokespecial 18, 3) from by decide +kernel) rfl (by decide) rfl rfl (show (5 + 64 * hN σ) % 64 = 5 from by omega)
theorem b_PL_init_23 {C : CF} {d : Nat} {σ : HP} {r0 : Nat} {r1 : Nat} {a0 : Nat} (h1 : r1 % 64 = 11) : runF C d m_PL_init (23, [some (.ref a0)], [.ref r0, .ref r1], σ) = bkN C d m_PL_init 31 [some (.ref a0)] [.ref (5 + 64 * hN σ), .ref a0] (C m_Lift_init [.ref (5 + 64 * hN σ)] (hA (wR σ r1 1 (some r0)) 5 3)) := by
  refine (r_putR (show decode (zb m_PL_init) 23 = .ok (.putfield 19, 3) from by decide +kernel) rfl rfl rfl h1).trans ?_
  refine (r_aloadn 0 (show decode (zb m_PL_init) 26 = .ok (.aload_n 0, 1) from by decide +kernel) rfl).trans ?_
  refine (r_new (ci := 5) (show decode (zb m_PL_init) 27 = .ok (.new 16, 3) from by decide +kernel) rfl).trans ?_
  refine (r_dupR (show decode (zb m_PL_init) 30 = .ok (.dup, 1) from by decide +kernel)).trans ?_
  exact r_spec (args := []) (rest := [.ref (5 + 64 * hN σ), .ref a0]) (show decode (zb m_PL_init) 31 = .ok (.invokespecial 18, 3) from by decide +kernel) rfl (by decide) rfl rfl (show (5 + 64 * hN σ) % 64 = 5 from by omega)
theorem b_PL_init_34 {C : CF} {d : Nat} {σ : HP} {r0 : Nat} {r1 : Nat} {a0 : Nat} (h1 : r1 % 64 = 11) : runF C d m_PL_init (34, [some (.ref a0)], [.ref r0, .ref r1], σ) = bkN C d m_PL_init 42 [some (.ref a0)] [.ref (10 + 64 * hN σ), .ref a0] (C m_Work_init [.ref (10 + 64 * hN σ)] (hA (wR σ r1 2 (some r0)) 10 7)) := by
  refine (r_putR (show decode (zb m_PL_init) 34 = .ok (.putfield 23, 3) from by decide +kernel) rfl rfl rfl h1).trans ?_
  refine (r_aloadn 0 (show decode (zb m_PL_init) 37 = .ok (.aload_n 0, 1) from by decide +kernel) rfl).trans ?_
  refine (r_new (ci := 10) (show decode (zb m_PL_init) 38 = .ok (.new 26, 3) from by decide +kernel) rfl).trans ?_
  refine (r_dupR (show decode (zb m_PL_init) 41 = .ok (.dup, 1) from by decide +kernel)).trans ?_
  exact r_spec (args := []) (rest := [.ref (10 + 64 * hN σ), .ref a0]) (show decode (zb m_PL_init) 42 = .ok (.invokespecial 28, 3) from by decide +kernel) rfl (by decide) rfl rfl (show (10 + 64 * hN σ) % 64 = 10 from by omega)
theorem b_PL_init_45 {C : CF} {d : Nat} {σ : HP} {r0 : Nat} {r1 : Nat} {a0 : Nat} (h1 : r1 % 64 = 11) : runF C d m_PL_init (45, [some (.ref a0)], [.ref r0, .ref r1], σ) = bkN C d m_PL_init 53 [some (.ref a0)] [.ref (6 + 64 * hN σ), .ref a0] (C m_Past_init [.ref (6 + 64 * hN σ)] (hA (wR σ r1 3 (some r0)) 6 4)) := by
  refine (r_putR (show decode (zb m_PL_init) 45 = .ok (.putfield 29, 3) from by decide +kernel) rfl rfl rfl h1).trans ?_
  refine (r_aloadn 0 (show decode (zb m_PL_init) 48 = .ok (.aload_n 0, 1) from by decide +kernel) rfl).trans ?_
  refine (r_new (ci := 6) (show decode (zb m_PL_init) 49 = .ok (.new 33, 3) from by decide +kernel) rfl).trans ?_
  refine (r_dupR (show decode (zb m_PL_init) 52 = .ok (.dup, 1) from by decide +kernel)).trans ?_
  exact r_spec (args := []) (rest := [.ref (6 + 64 * hN σ), .ref a0]) (show decode (zb m_PL_init) 53 = .ok (.invokespecial 35, 3) from by decide +kernel) rfl (by decide) rfl rfl (show (6 + 64 * hN σ) % 64 = 6 from by omega)
theorem b_PL_init_56 {C : CF} {d : Nat} {σ : HP} {r0 : Nat} {r1 : Nat} {a0 : Nat} (h1 : r1 % 64 = 11) : runF C d m_PL_init (56, [some (.ref a0)], [.ref r0, .ref r1], σ) = bkN C d m_PL_init 64 [some (.ref a0)] [.ref (8 + 64 * hN σ), .ref a0] (C m_Scales_init [.ref (8 + 64 * hN σ)] (hA (wR σ r1 4 (some r0)) 8 4)) := by
  refine (r_putR (show decode (zb m_PL_init) 56 = .ok (.putfield 36, 3) from by decide +kernel) rfl rfl rfl h1).trans ?_
  refine (r_aloadn 0 (show decode (zb m_PL_init) 59 = .ok (.aload_n 0, 1) from by decide +kernel) rfl).trans ?_
  refine (r_new (ci := 8) (show decode (zb m_PL_init) 60 = .ok (.new 40, 3) from by decide +kernel) rfl).trans ?_
  refine (r_dupR (show decode (zb m_PL_init) 63 = .ok (.dup, 1) from by decide +kernel)).trans ?_
  exact r_spec (args := []) (rest := [.ref (8 + 64 * hN σ), .ref a0]) (show decode (zb m_PL_init) 64 = .ok (.invokespecial 42, 3) from by decide +kernel) rfl (by decide) rfl rfl (show (8 + 64 * hN σ) % 64 = 8 from by omega)
theorem b_PL_init_67 {C : CF} {d : Nat} {σ : HP} {r0 : Nat} {r1 : Nat} {a0 : Nat} (h1 : r1 % 64 = 11) : runF C d m_PL_init (67, [some (.ref a0)], [.ref r0, .ref r1], σ) = bkN C d m_PL_init 75 [some (.ref a0)] [.ref (9 + 64 * hN σ), .ref a0] (C m_Week_init [.ref (9 + 64 * hN σ)] (hA (wR σ r1 5 (some r0)) 9 1)) := by
  refine (r_putR (show decode (zb m_PL_init) 67 = .ok (.putfield 43, 3) from by decide +kernel) rfl rfl rfl h1).trans ?_
  refine (r_aloadn 0 (show decode (zb m_PL_init) 70 = .ok (.aload_n 0, 1) from by decide +kernel) rfl).trans ?_
  refine (r_new (ci := 9) (show decode (zb m_PL_init) 71 = .ok (.new 47, 3) from by decide +kernel) rfl).trans ?_
  refine (r_dupR (show decode (zb m_PL_init) 74 = .ok (.dup, 1) from by decide +kernel)).trans ?_
  exact r_spec (args := []) (rest := [.ref (9 + 64 * hN σ), .ref a0]) (show decode (zb m_PL_init) 75 = .ok (.invokespecial 49, 3) from by decide +kernel) rfl (by decide) rfl rfl (show (9 + 64 * hN σ) % 64 = 9 from by omega)
theorem b_PL_init_78 {C : CF} {d : Nat} {σ : HP} {r0 : Nat} {r1 : Nat} {a0 : Nat} (h1 : r1 % 64 = 11) : runF C d m_PL_init (78, [some (.ref a0)], [.ref r0, .ref r1], σ) = bkN C d m_PL_init 86 [some (.ref a0)] [.ref (4 + 64 * hN σ), .ref a0] (C m_Law_init [.ref (4 + 64 * hN σ)] (hA (wR σ r1 6 (some r0)) 4 4)) := by
  refine (r_putR (show decode (zb m_PL_init) 78 = .ok (.putfield 50, 3) from by decide +kernel) rfl rfl rfl h1).trans ?_
  refine (r_aloadn 0 (show decode (zb m_PL_init) 81 = .ok (.aload_n 0, 1) from by decide +kernel) rfl).trans ?_
  refine (r_new (ci := 4) (show decode (zb m_PL_init) 82 = .ok (.new 54, 3) from by decide +kernel) rfl).trans ?_
  refine (r_dupR (show decode (zb m_PL_init) 85 = .ok (.dup, 1) from by decide +kernel)).trans ?_
  exact r_spec (args := []) (rest := [.ref (4 + 64 * hN σ), .ref a0]) (show decode (zb m_PL_init) 86 = .ok (.invokespecial 56, 3) from by decide +kernel) rfl (by decide) rfl rfl (show (4 + 64 * hN σ) % 64 = 4 from by omega)
theorem b_PL_init_89 {C : CF} {d : Nat} {σ : HP} {r0 : Nat} {r1 : Nat} {a0 : Nat} (h1 : r1 % 64 = 11) : runF C d m_PL_init (89, [some (.ref a0)], [.ref r0, .ref r1], σ) = bkN C d m_PL_init 97 [some (.ref a0)] [.ref (0 + 64 * hN σ), .ref a0] (C m_Book_init [.ref (0 + 64 * hN σ)] (hA (wR σ r1 7 (some r0)) 0 7)) := by
  refine (r_putR (show decode (zb m_PL_init) 89 = .ok (.putfield 57, 3) from by decide +kernel) rfl rfl rfl h1).trans ?_
  refine (r_aloadn 0 (show decode (zb m_PL_init) 92 = .ok (.aload_n 0, 1) from by decide +kernel) rfl).trans ?_
  refine (r_new (ci := 0) (show decode (zb m_PL_init) 93 = .ok (.new 61, 3) from by decide +kernel) rfl).trans ?_
  refine (r_dupR (show decode (zb m_PL_init) 96 = .ok (.dup, 1) from by decide +kernel)).trans ?_
  exact r_spec (args := []) (rest := [.ref (0 + 64 * hN σ), .ref a0]) (show decode (zb m_PL_init) 97 = .ok (.invokespecial 63, 3) from by decide +kernel) rfl (by decide) rfl rfl (show (0 + 64 * hN σ) % 64 = 0 from by omega)
theorem b_PL_init_100 {C : CF} {d : Nat} {σ : HP} {r0 : Nat} {r1 : Nat} {a0 : Nat} (h1 : r1 % 64 = 11) : runF C d m_PL_init (100, [some (.ref a0)], [.ref r0, .ref r1], σ) = bkN C d m_PL_init 108 [some (.ref a0)] [.ref (0 + 64 * hN σ), .ref a0] (C m_Book_init [.ref (0 + 64 * hN σ)] (hA (wR σ r1 8 (some r0)) 0 7)) := by
  refine (r_putR (show decode (zb m_PL_init) 100 = .ok (.putfield 64, 3) from by decide +kernel) rfl rfl rfl h1).trans ?_
  refine (r_aloadn 0 (show decode (zb m_PL_init) 103 = .ok (.aload_n 0, 1) from by decide +kernel) rfl).trans ?_
  refine (r_new (ci := 0) (show decode (zb m_PL_init) 104 = .ok (.new 61, 3) from by decide +kernel) rfl).trans ?_
  refine (r_dupR (show decode (zb m_PL_init) 107 = .ok (.dup, 1) from by decide +kernel)).trans ?_
  exact r_spec (args := []) (rest := [.ref (0 + 64 * hN σ), .ref a0]) (show decode (zb m_PL_init) 108 = .ok (.invokespecial 63, 3) from by decide +kernel) rfl (by decide) rfl rfl (show (0 + 64 * hN σ) % 64 = 0 from by omega)
theorem b_PL_init_111 {C : CF} {d : Nat} {σ : HP} {r0 : Nat} {r1 : Nat} {a0 : Nat} (h1 : r1 % 64 = 11) (h2 : a0 % 64 = 11) : runF C d m_PL_init (111, [some (.ref a0)], [.ref r0, .ref r1], σ) = some (.inl none, wI (wI (wI (wI (wI (wR σ r1 9 (some r0)) a0 10 (0 : Int32)) a0 11 (-1 : Int32)) a0 12 (0 : Int32)) a0 13 (0 : Int32)) a0 14 (0 : Int32)) := by
  refine (r_putR (show decode (zb m_PL_init) 111 = .ok (.putfield 68, 3) from by decide +kernel) rfl rfl rfl h1).trans ?_
  refine (r_aloadn 0 (show decode (zb m_PL_init) 114 = .ok (.aload_n 0, 1) from by decide +kernel) rfl).trans ?_
  refine (r_iconst (v := (0 : Int32)) (show decode (zb m_PL_init) 115 = .ok (.iconst (0), 1) from by decide +kernel) (by decide)).trans ?_
  refine (r_putI (show decode (zb m_PL_init) 116 = .ok (.putfield 71, 3) from by decide +kernel) rfl rfl rfl h2).trans ?_
  refine (r_aloadn 0 (show decode (zb m_PL_init) 119 = .ok (.aload_n 0, 1) from by decide +kernel) rfl).trans ?_
  refine (r_iconst (v := (-1 : Int32)) (show decode (zb m_PL_init) 120 = .ok (.iconst (-1), 1) from by decide +kernel) (by decide)).trans ?_
  refine (r_putI (show decode (zb m_PL_init) 121 = .ok (.putfield 75, 3) from by decide +kernel) rfl rfl rfl h2).trans ?_
  refine (r_aloadn 0 (show decode (zb m_PL_init) 124 = .ok (.aload_n 0, 1) from by decide +kernel) rfl).trans ?_
  refine (r_iconst (v := (0 : Int32)) (show decode (zb m_PL_init) 125 = .ok (.iconst (0), 1) from by decide +kernel) (by decide)).trans ?_
  refine (r_putI (show decode (zb m_PL_init) 126 = .ok (.putfield 78, 3) from by decide +kernel) rfl rfl rfl h2).trans ?_
  refine (r_aloadn 0 (show decode (zb m_PL_init) 129 = .ok (.aload_n 0, 1) from by decide +kernel) rfl).trans ?_
  refine (r_iconst (v := (0 : Int32)) (show decode (zb m_PL_init) 130 = .ok (.iconst (0), 1) from by decide +kernel) (by decide)).trans ?_
  refine (r_putI (show decode (zb m_PL_init) 131 = .ok (.putfield 81, 3) from by decide +kernel) rfl rfl rfl h2).trans ?_
  refine (r_aloadn 0 (show decode (zb m_PL_init) 134 = .ok (.aload_n 0, 1) from by decide +kernel) rfl).trans ?_
  refine (r_iconst (v := (0 : Int32)) (show decode (zb m_PL_init) 135 = .ok (.iconst (0), 1) from by decide +kernel) (by decide)).trans ?_
  refine (r_putI (show decode (zb m_PL_init) 136 = .ok (.putfield 84, 3) from by decide +kernel) rfl rfl rfl h2).trans ?_
  exact r_vret (show decode (zb m_PL_init) 139 = .ok (.return_, 1) from by decide +kernel) rfl
theorem e_PL_feed {d : Nat} {σ : HP} {a0 : Nat} {x1 : Int32} {x2 : Int32} {x3 : Int32} {x4 : Int32} {x5 : Int32} : callF (d + 1) m_PL_feed [.ref a0, .int x1, .int x2, .int x3, .int x4, .int x5] σ = runF (callF d) d m_PL_feed (0, [some (.ref a0), some (.int x1), some (.int x2), some (.int x3), some (.int x4), some (.int x5)], [], σ) := callF_in rfl rfl
theorem b_PL_feed_0 {C : CF} {d : Nat} {σ : HP} {a0 : Nat} {l1 : Option Value} {l2 : Option Value} {l3 : Option Value} {l4 : Option Value} {l5 : Option Value} (h1 : a0 % 64 = 11) : runF C d m_PL_feed (0, [some (.ref a0), l1, l2, l3, l4, l5], [], σ) = if ((gI σ a0 10) + (20 : Int32)) ≤ (600 : Int32) then runF C d m_PL_feed (15, [some (.ref a0), l1, l2, l3, l4, l5], [], σ) else runF C d m_PL_feed (13, [some (.ref a0), l1, l2, l3, l4, l5], [], σ) := by
  refine (r_aloadn 0 (show decode (zb m_PL_feed) 0 = .ok (.aload_n 0, 1) from by decide +kernel) rfl).trans ?_
  refine (r_getI (show decode (zb m_PL_feed) 1 = .ok (.getfield 71, 3) from by decide +kernel) rfl rfl h1).trans ?_
  refine (r_bipush (v := (20 : Int32)) (show decode (zb m_PL_feed) 4 = .ok (.bipush (20), 2) from by decide +kernel) (by decide)).trans ?_
  refine (r_iadd (show decode (zb m_PL_feed) 6 = .ok (.iadd, 1) from by decide +kernel)).trans ?_
  refine (r_sipush (v := (600 : Int32)) (show decode (zb m_PL_feed) 7 = .ok (.sipush (600), 3) from by decide +kernel) (by decide)).trans ?_
  exact r_icmp_le 15 (show decode (zb m_PL_feed) 10 = .ok (.if_icmp .le (5), 3) from by decide +kernel) rfl
theorem b_PL_feed_13 {C : CF} {d : Nat} {σ : HP} {l0 : Option Value} {l1 : Option Value} {l2 : Option Value} {l3 : Option Value} {l4 : Option Value} {l5 : Option Value}  : runF C d m_PL_feed (13, [l0, l1, l2, l3, l4, l5], [], σ) = some (.inl (some (.int (-1 : Int32))), σ) := by
  refine (r_iconst (v := (-1 : Int32)) (show decode (zb m_PL_feed) 13 = .ok (.iconst (-1), 1) from by decide +kernel) (by decide)).trans ?_
  exact r_iret (show decode (zb m_PL_feed) 14 = .ok (.ireturn, 1) from by decide +kernel) rfl rfl
theorem b_PL_feed_15 {C : CF} {d : Nat} {σ : HP} {a0 : Nat} {x1 : Int32} {l2 : Option Value} {l3 : Option Value} {l4 : Option Value} {l5 : Option Value} (h1 : a0 % 64 = 11) : runF C d m_PL_feed (15, [some (.ref a0), some (.int x1), l2, l3, l4, l5], [], σ) = bk C d m_PL_feed 17 [some (.ref a0), some (.int x1), l2, l3, l4, l5] [] (C m_PL_putFourBytes [.ref a0, .int x1] σ) := by
  refine (r_aloadn 0 (show decode (zb m_PL_feed) 15 = .ok (.aload_n 0, 1) from by decide +kernel) rfl).trans ?_
  refine (r_iloadn 1 (show decode (zb m_PL_feed) 16 = .ok (.iload_n 1, 1) from by decide +kernel) rfl).trans ?_
  exact r_virt (args := [.int x1]) (rest := []) (show decode (zb m_PL_feed) 17 = .ok (.invokevirtual 87, 3) from by decide +kernel) rfl rfl rfl h1
theorem b_PL_feed_20 {C : CF} {d : Nat} {σ : HP} {a0 : Nat} {x2 : Int32} {l1 : Option Value} {l3 : Option Value} {l4 : Option Value} {l5 : Option Value} (h1 : a0 % 64 = 11) : runF C d m_PL_feed (20, [some (.ref a0), l1, some (.int x2), l3, l4, l5], [], σ) = bk C d m_PL_feed 22 [some (.ref a0), l1, some (.int x2), l3, l4, l5] [] (C m_PL_putFourBytes [.ref a0, .int x2] σ) := by
  refine (r_aloadn 0 (show decode (zb m_PL_feed) 20 = .ok (.aload_n 0, 1) from by decide +kernel) rfl).trans ?_
  refine (r_iloadn 2 (show decode (zb m_PL_feed) 21 = .ok (.iload_n 2, 1) from by decide +kernel) rfl).trans ?_
  exact r_virt (args := [.int x2]) (rest := []) (show decode (zb m_PL_feed) 22 = .ok (.invokevirtual 87, 3) from by decide +kernel) rfl rfl rfl h1
theorem b_PL_feed_25 {C : CF} {d : Nat} {σ : HP} {a0 : Nat} {x3 : Int32} {l1 : Option Value} {l2 : Option Value} {l4 : Option Value} {l5 : Option Value} (h1 : a0 % 64 = 11) : runF C d m_PL_feed (25, [some (.ref a0), l1, l2, some (.int x3), l4, l5], [], σ) = bk C d m_PL_feed 27 [some (.ref a0), l1, l2, some (.int x3), l4, l5] [] (C m_PL_putFourBytes [.ref a0, .int x3] σ) := by
  refine (r_aloadn 0 (show decode (zb m_PL_feed) 25 = .ok (.aload_n 0, 1) from by decide +kernel) rfl).trans ?_
  refine (r_iloadn 3 (show decode (zb m_PL_feed) 26 = .ok (.iload_n 3, 1) from by decide +kernel) rfl).trans ?_
  exact r_virt (args := [.int x3]) (rest := []) (show decode (zb m_PL_feed) 27 = .ok (.invokevirtual 87, 3) from by decide +kernel) rfl rfl rfl h1
theorem b_PL_feed_30 {C : CF} {d : Nat} {σ : HP} {a0 : Nat} {x4 : Int32} {l1 : Option Value} {l2 : Option Value} {l3 : Option Value} {l5 : Option Value} (h1 : a0 % 64 = 11) : runF C d m_PL_feed (30, [some (.ref a0), l1, l2, l3, some (.int x4), l5], [], σ) = bk C d m_PL_feed 33 [some (.ref a0), l1, l2, l3, some (.int x4), l5] [] (C m_PL_putFourBytes [.ref a0, .int x4] σ) := by
  refine (r_aloadn 0 (show decode (zb m_PL_feed) 30 = .ok (.aload_n 0, 1) from by decide +kernel) rfl).trans ?_
  refine (r_iload 4 (show decode (zb m_PL_feed) 31 = .ok (.iload 4, 2) from by decide +kernel) rfl).trans ?_
  exact r_virt (args := [.int x4]) (rest := []) (show decode (zb m_PL_feed) 33 = .ok (.invokevirtual 87, 3) from by decide +kernel) rfl rfl rfl h1
theorem b_PL_feed_36 {C : CF} {d : Nat} {σ : HP} {a0 : Nat} {x5 : Int32} {l1 : Option Value} {l2 : Option Value} {l3 : Option Value} {l4 : Option Value} (h1 : a0 % 64 = 11) : runF C d m_PL_feed (36, [some (.ref a0), l1, l2, l3, l4, some (.int x5)], [], σ) = bk C d m_PL_feed 39 [some (.ref a0), l1, l2, l3, l4, some (.int x5)] [] (C m_PL_putFourBytes [.ref a0, .int x5] σ) := by
  refine (r_aloadn 0 (show decode (zb m_PL_feed) 36 = .ok (.aload_n 0, 1) from by decide +kernel) rfl).trans ?_
  refine (r_iload 5 (show decode (zb m_PL_feed) 37 = .ok (.iload 5, 2) from by decide +kernel) rfl).trans ?_
  exact r_virt (args := [.int x5]) (rest := []) (show decode (zb m_PL_feed) 39 = .ok (.invokevirtual 87, 3) from by decide +kernel) rfl rfl rfl h1
theorem b_PL_feed_42 {C : CF} {d : Nat} {σ : HP} {a0 : Nat} {l1 : Option Value} {l2 : Option Value} {l3 : Option Value} {l4 : Option Value} {l5 : Option Value} (h1 : a0 % 64 = 11) : runF C d m_PL_feed (42, [some (.ref a0), l1, l2, l3, l4, l5], [], σ) = some (.inl (some (.int (gI σ a0 10))), σ) := by
  refine (r_aloadn 0 (show decode (zb m_PL_feed) 42 = .ok (.aload_n 0, 1) from by decide +kernel) rfl).trans ?_
  refine (r_getI (show decode (zb m_PL_feed) 43 = .ok (.getfield 71, 3) from by decide +kernel) rfl rfl h1).trans ?_
  exact r_iret (show decode (zb m_PL_feed) 46 = .ok (.ireturn, 1) from by decide +kernel) rfl rfl
theorem e_PL_putFourBytes {d : Nat} {σ : HP} {a0 : Nat} {x1 : Int32} : callF (d + 1) m_PL_putFourBytes [.ref a0, .int x1] σ = runF (callF d) d m_PL_putFourBytes (0, [some (.ref a0), some (.int x1), none, none], [], σ) := callF_in rfl rfl
theorem b_PL_putFourBytes_0 {C : CF} {d : Nat} {σ : HP} {a0 : Nat} {l1 : Option Value} {l2 : Option Value} {l3 : Option Value} (h1 : a0 % 64 = 11) (h2 : (gR σ a0 0).isSome = true) (h3 : (dr (gR σ a0 0)) % 64 = 7) (h4 : (gR σ (dr (gR σ a0 0)) 0).isSome = true) : runF C d m_PL_putFourBytes (0, [some (.ref a0), l1, l2, l3], [], σ) = runF C d m_PL_putFourBytes (11, [some (.ref a0), l1, some (.ref (dr (gR σ (dr (gR σ a0 0)) 0))), some (.int ((24 : Int32)))], [], σ) := by
  refine (r_aloadn 0 (show decode (zb m_PL_putFourBytes) 0 = .ok (.aload_n 0, 1) from by decide +kernel) rfl).trans ?_
  refine (r_getR (show decode (zb m_PL_putFourBytes) 1 = .ok (.getfield 10, 3) from by decide +kernel) rfl rfl h1 h2).trans ?_
  refine (r_getR (show decode (zb m_PL_putFourBytes) 4 = .ok (.getfield 389, 3) from by decide +kernel) rfl rfl h3 h4).trans ?_
  refine (r_astoren 2 (show decode (zb m_PL_putFourBytes) 7 = .ok (.astore_n 2, 1) from by decide +kernel) rfl).trans ?_
  refine (r_bipush (v := (24 : Int32)) (show decode (zb m_PL_putFourBytes) 8 = .ok (.bipush (24), 2) from by decide +kernel) (by decide)).trans ?_
  exact r_istoren 3 (show decode (zb m_PL_putFourBytes) 10 = .ok (.istore_n 3, 1) from by decide +kernel) rfl
theorem b_PL_putFourBytes_11 {C : CF} {d : Nat} {σ : HP} {x3 : Int32} {l0 : Option Value} {l1 : Option Value} {l2 : Option Value}  : runF C d m_PL_putFourBytes (11, [l0, l1, l2, some (.int x3)], [], σ) = if x3 < 0 then runF C d m_PL_putFourBytes (57, [l0, l1, l2, some (.int x3)], [], σ) else runF C d m_PL_putFourBytes (15, [l0, l1, l2, some (.int x3)], [], σ) := by
  refine (r_iloadn 3 (show decode (zb m_PL_putFourBytes) 11 = .ok (.iload_n 3, 1) from by decide +kernel) rfl).trans ?_
  exact r_if_lt 57 (show decode (zb m_PL_putFourBytes) 12 = .ok (.ifCond .lt (45), 3) from by decide +kernel) rfl
theorem b_PL_putFourBytes_15 {C : CF} {d : Nat} {σ : HP} {a0 : Nat} {l1 : Option Value} {l2 : Option Value} {l3 : Option Value} (h1 : a0 % 64 = 11) : runF C d m_PL_putFourBytes (15, [some (.ref a0), l1, l2, l3], [], σ) = if (gI σ a0 10) < 0 then runF C d m_PL_putFourBytes (51, [some (.ref a0), l1, l2, l3], [], σ) else runF C d m_PL_putFourBytes (22, [some (.ref a0), l1, l2, l3], [], σ) := by
  refine (r_aloadn 0 (show decode (zb m_PL_putFourBytes) 15 = .ok (.aload_n 0, 1) from by decide +kernel) rfl).trans ?_
  refine (r_getI (show decode (zb m_PL_putFourBytes) 16 = .ok (.getfield 71, 3) from by decide +kernel) rfl rfl h1).trans ?_
  exact r_if_lt 51 (show decode (zb m_PL_putFourBytes) 19 = .ok (.ifCond .lt (32), 3) from by decide +kernel) rfl
theorem b_PL_putFourBytes_22 {C : CF} {d : Nat} {σ : HP} {a0 : Nat} {a2 : Nat} {l1 : Option Value} {l3 : Option Value} (h1 : a0 % 64 = 11) (h2 : ¬ aty (a2 % 64) = 0) : runF C d m_PL_putFourBytes (22, [some (.ref a0), l1, some (.ref a2), l3], [], σ) = if (Int32.ofNat (alen (a2 % 64))) ≤ (gI σ a0 10) then runF C d m_PL_putFourBytes (51, [some (.ref a0), l1, some (.ref a2), l3], [], σ) else runF C d m_PL_putFourBytes (31, [some (.ref a0), l1, some (.ref a2), l3], [], σ) := by
  refine (r_aloadn 0 (show decode (zb m_PL_putFourBytes) 22 = .ok (.aload_n 0, 1) from by decide +kernel) rfl).trans ?_
  refine (r_getI (show decode (zb m_PL_putFourBytes) 23 = .ok (.getfield 71, 3) from by decide +kernel) rfl rfl h1).trans ?_
  refine (r_aloadn 2 (show decode (zb m_PL_putFourBytes) 26 = .ok (.aload_n 2, 1) from by decide +kernel) rfl).trans ?_
  refine (r_alen (show decode (zb m_PL_putFourBytes) 27 = .ok (.arraylength, 1) from by decide +kernel) h2).trans ?_
  exact r_icmp_ge 51 (show decode (zb m_PL_putFourBytes) 28 = .ok (.if_icmp .ge (23), 3) from by decide +kernel) rfl
theorem b_PL_putFourBytes_31 {C : CF} {d : Nat} {σ : HP} {a2 : Nat} {a0 : Nat} {x1 : Int32} {x3 : Int32} (h1 : a0 % 64 = 11) (h2 : aty (a2 % 64) = 3) (h3 : inR (gI σ a0 10) (alen (a2 % 64)) = true) : runF C d m_PL_putFourBytes (31, [some (.ref a0), some (.int x1), some (.ref a2), some (.int x3)], [], σ) = runF C d m_PL_putFourBytes (51, [some (.ref a0), some (.int x1), some (.ref a2), some (.int x3)], [], wI (wI σ a2 (Int32.toNatClampNeg (gI σ a0 10)) (p_byte (p_byte (p_shr x1 x3)))) a0 10 ((gI (wI σ a2 (Int32.toNatClampNeg (gI σ a0 10)) (p_byte (p_byte (p_shr x1 x3)))) a0 10) + (1 : Int32))) := by
  refine (r_aloadn 2 (show decode (zb m_PL_putFourBytes) 31 = .ok (.aload_n 2, 1) from by decide +kernel) rfl).trans ?_
  refine (r_aloadn 0 (show decode (zb m_PL_putFourBytes) 32 = .ok (.aload_n 0, 1) from by decide +kernel) rfl).trans ?_
  refine (r_getI (show decode (zb m_PL_putFourBytes) 33 = .ok (.getfield 71, 3) from by decide +kernel) rfl rfl h1).trans ?_
  refine (r_iloadn 1 (show decode (zb m_PL_putFourBytes) 36 = .ok (.iload_n 1, 1) from by decide +kernel) rfl).trans ?_
  refine (r_iloadn 3 (show decode (zb m_PL_putFourBytes) 37 = .ok (.iload_n 3, 1) from by decide +kernel) rfl).trans ?_
  refine (r_ishr (show decode (zb m_PL_putFourBytes) 38 = .ok (.ishr, 1) from by decide +kernel)).trans ?_
  refine (r_i2b (show decode (zb m_PL_putFourBytes) 39 = .ok (.i2b, 1) from by decide +kernel)).trans ?_
  refine (r_bast (show decode (zb m_PL_putFourBytes) 40 = .ok (.bastore, 1) from by decide +kernel) h2 h3).trans ?_
  refine (r_aloadn 0 (show decode (zb m_PL_putFourBytes) 41 = .ok (.aload_n 0, 1) from by decide +kernel) rfl).trans ?_
  refine (r_dupR (show decode (zb m_PL_putFourBytes) 42 = .ok (.dup, 1) from by decide +kernel)).trans ?_
  refine (r_getI (show decode (zb m_PL_putFourBytes) 43 = .ok (.getfield 71, 3) from by decide +kernel) rfl rfl h1).trans ?_
  refine (r_iconst (v := (1 : Int32)) (show decode (zb m_PL_putFourBytes) 46 = .ok (.iconst (1), 1) from by decide +kernel) (by decide)).trans ?_
  refine (r_iadd (show decode (zb m_PL_putFourBytes) 47 = .ok (.iadd, 1) from by decide +kernel)).trans ?_
  exact r_putI (show decode (zb m_PL_putFourBytes) 48 = .ok (.putfield 71, 3) from by decide +kernel) rfl rfl rfl h1
theorem b_PL_putFourBytes_51 {C : CF} {d : Nat} {σ : HP} {x3 : Int32} {l0 : Option Value} {l1 : Option Value} {l2 : Option Value}  : runF C d m_PL_putFourBytes (51, [l0, l1, l2, some (.int x3)], [], σ) = runF C d m_PL_putFourBytes (11, [l0, l1, l2, some (.int (x3 + (-8 : Int32)))], [], σ) := by
  refine (r_iinc 3 (v := (-8 : Int32)) (show decode (zb m_PL_putFourBytes) 51 = .ok (.iinc 3 (-8), 3) from by decide +kernel) rfl rfl (by decide)).trans ?_
  exact r_goto 11 (show decode (zb m_PL_putFourBytes) 54 = .ok (.goto (-43), 3) from by decide +kernel) rfl
theorem b_PL_putFourBytes_57 {C : CF} {d : Nat} {σ : HP} {l0 : Option Value} {l1 : Option Value} {l2 : Option Value} {l3 : Option Value}  : runF C d m_PL_putFourBytes (57, [l0, l1, l2, l3], [], σ) = some (.inl none, σ) := by
  exact r_vret (show decode (zb m_PL_putFourBytes) 57 = .ok (.return_, 1) from by decide +kernel) rfl
theorem e_PL_fault {d : Nat} {σ : HP} {a0 : Nat} : callF (d + 1) m_PL_fault [.ref a0] σ = runF (callF d) d m_PL_fault (0, [some (.ref a0)], [], σ) := callF_in rfl rfl
theorem b_PL_fault_0 {C : CF} {d : Nat} {σ : HP} {a0 : Nat} (h1 : a0 % 64 = 11) : runF C d m_PL_fault (0, [some (.ref a0)], [], σ) = some (.inl (some (.int (gI σ a0 11))), σ) := by
  refine (r_aloadn 0 (show decode (zb m_PL_fault) 0 = .ok (.aload_n 0, 1) from by decide +kernel) rfl).trans ?_
  refine (r_getI (show decode (zb m_PL_fault) 1 = .ok (.getfield 75, 3) from by decide +kernel) rfl rfl h1).trans ?_
  exact r_iret (show decode (zb m_PL_fault) 4 = .ok (.ireturn, 1) from by decide +kernel) rfl rfl
theorem e_PL_undo {d : Nat} {σ : HP} {a0 : Nat} : callF (d + 1) m_PL_undo [.ref a0] σ = runF (callF d) d m_PL_undo (0, [some (.ref a0), none], [], σ) := callF_in rfl rfl
theorem b_PL_undo_0 {C : CF} {d : Nat} {σ : HP} {a0 : Nat} {l1 : Option Value} (h1 : a0 % 64 = 11) (h2 : (gR σ a0 4).isSome = true) (h3 : (gR σ a0 1).isSome = true) (h4 : (dr (gR σ a0 1)) % 64 = 5) (h5 : (gR σ (dr (gR σ a0 1)) 2).isSome = true) (h6 : (dr (gR σ a0 4)) % 64 = 6) : runF C d m_PL_undo (0, [some (.ref a0), l1], [], σ) = bk C d m_PL_undo 11 [some (.ref a0), l1] [] (C m_Past_undoWork [.ref (dr (gR σ a0 4)), .ref (dr (gR σ (dr (gR σ a0 1)) 2))] σ) := by
  refine (r_aloadn 0 (show decode (zb m_PL_undo) 0 = .ok (.aload_n 0, 1) from by decide +kernel) rfl).trans ?_
  refine (r_getR (show decode (zb m_PL_undo) 1 = .ok (.getfield 36, 3) from by decide +kernel) rfl rfl h1 h2).trans ?_
  refine (r_aloadn 0 (show decode (zb m_PL_undo) 4 = .ok (.aload_n 0, 1) from by decide +kernel) rfl).trans ?_
  refine (r_getR (show decode (zb m_PL_undo) 5 = .ok (.getfield 19, 3) from by decide +kernel) rfl rfl h1 h3).trans ?_
  refine (r_getR (show decode (zb m_PL_undo) 8 = .ok (.getfield 146, 3) from by decide +kernel) rfl rfl h4 h5).trans ?_
  exact r_virt (args := [.ref (dr (gR σ (dr (gR σ a0 1)) 2))]) (rest := []) (show decode (zb m_PL_undo) 11 = .ok (.invokevirtual 173, 3) from by decide +kernel) rfl rfl rfl h6
theorem b_PL_undo_14 {C : CF} {d : Nat} {σ : HP} {s0 : Int32} {l0 : Option Value} {l1 : Option Value}  : runF C d m_PL_undo (14, [l0, l1], [.int s0], σ) = if s0 = (-1 : Int32) then runF C d m_PL_undo (25, [l0, some (.int s0)], [], σ) else runF C d m_PL_undo (20, [l0, some (.int s0)], [], σ) := by
  refine (r_istoren 1 (show decode (zb m_PL_undo) 14 = .ok (.istore_n 1, 1) from by decide +kernel) rfl).trans ?_
  refine (r_iloadn 1 (show decode (zb m_PL_undo) 15 = .ok (.iload_n 1, 1) from by decide +kernel) rfl).trans ?_
  refine (r_iconst (v := (-1 : Int32)) (show decode (zb m_PL_undo) 16 = .ok (.iconst (-1), 1) from by decide +kernel) (by decide)).trans ?_
  exact r_icmp_eq 25 (show decode (zb m_PL_undo) 17 = .ok (.if_icmp .eq (8), 3) from by decide +kernel) rfl
theorem b_PL_undo_20 {C : CF} {d : Nat} {σ : HP} {a0 : Nat} {l1 : Option Value} (h1 : a0 % 64 = 11) : runF C d m_PL_undo (20, [some (.ref a0), l1], [], σ) = runF C d m_PL_undo (25, [some (.ref a0), l1], [], wI σ a0 12 (0 : Int32)) := by
  refine (r_aloadn 0 (show decode (zb m_PL_undo) 20 = .ok (.aload_n 0, 1) from by decide +kernel) rfl).trans ?_
  refine (r_iconst (v := (0 : Int32)) (show decode (zb m_PL_undo) 21 = .ok (.iconst (0), 1) from by decide +kernel) (by decide)).trans ?_
  exact r_putI (show decode (zb m_PL_undo) 22 = .ok (.putfield 78, 3) from by decide +kernel) rfl rfl rfl h1
theorem b_PL_undo_25 {C : CF} {d : Nat} {σ : HP} {x1 : Int32} {l0 : Option Value}  : runF C d m_PL_undo (25, [l0, some (.int x1)], [], σ) = some (.inl (some (.int x1)), σ) := by
  refine (r_iloadn 1 (show decode (zb m_PL_undo) 25 = .ok (.iload_n 1, 1) from by decide +kernel) rfl).trans ?_
  exact r_iret (show decode (zb m_PL_undo) 26 = .ok (.ireturn, 1) from by decide +kernel) rfl rfl
theorem e_PL_copyRow {d : Nat} {σ : HP} {a0 : Nat} {a1 : Nat} : callF (d + 1) m_PL_copyRow [.ref a0, .ref a1] σ = runF (callF d) d m_PL_copyRow (0, [some (.ref a0), some (.ref a1)], [], σ) := callF_in rfl rfl
theorem b_PL_copyRow_0 {C : CF} {d : Nat} {σ : HP} {a0 : Nat} {a1 : Nat} (h1 : ¬ aty (a0 % 64) = 0) (h2 : ¬ aty (a1 % 64) = 0) (h3 : cpOK a0 a1 (0 : Int32) (0 : Int32) (p_min (Int32.ofNat (alen (a0 % 64))) (Int32.ofNat (alen (a1 % 64))))) : runF C d m_PL_copyRow (0, [some (.ref a0), some (.ref a1)], [], σ) = some (.inl none, cI σ a0 (Int32.toNatClampNeg (0 : Int32)) a1 (Int32.toNatClampNeg (0 : Int32)) (Int32.toNatClampNeg (p_min (Int32.ofNat (alen (a0 % 64))) (Int32.ofNat (alen (a1 % 64)))))) := by
  refine (r_aloadn 0 (show decode (zb m_PL_copyRow) 0 = .ok (.aload_n 0, 1) from by decide +kernel) rfl).trans ?_
  refine (r_iconst (v := (0 : Int32)) (show decode (zb m_PL_copyRow) 1 = .ok (.iconst (0), 1) from by decide +kernel) (by decide)).trans ?_
  refine (r_aloadn 1 (show decode (zb m_PL_copyRow) 2 = .ok (.aload_n 1, 1) from by decide +kernel) rfl).trans ?_
  refine (r_iconst (v := (0 : Int32)) (show decode (zb m_PL_copyRow) 3 = .ok (.iconst (0), 1) from by decide +kernel) (by decide)).trans ?_
  refine (r_aloadn 0 (show decode (zb m_PL_copyRow) 4 = .ok (.aload_n 0, 1) from by decide +kernel) rfl).trans ?_
  refine (r_alen (show decode (zb m_PL_copyRow) 5 = .ok (.arraylength, 1) from by decide +kernel) h1).trans ?_
  refine (r_aloadn 1 (show decode (zb m_PL_copyRow) 6 = .ok (.aload_n 1, 1) from by decide +kernel) rfl).trans ?_
  refine (r_alen (show decode (zb m_PL_copyRow) 7 = .ok (.arraylength, 1) from by decide +kernel) h2).trans ?_
  refine (r_min (show decode (zb m_PL_copyRow) 8 = .ok (.invokestatic 350, 3) from by decide +kernel) rfl rfl).trans ?_
  refine (r_copy (show decode (zb m_PL_copyRow) 11 = .ok (.invokestatic 415, 3) from by decide +kernel) rfl h3 rfl).trans ?_
  exact r_vret (show decode (zb m_PL_copyRow) 14 = .ok (.return_, 1) from by decide +kernel) rfl
theorem e_PL_rides {d : Nat} {σ : HP} {a0 : Nat} : callF (d + 1) m_PL_rides [.ref a0] σ = runF (callF d) d m_PL_rides (0, [some (.ref a0)], [], σ) := callF_in rfl rfl
theorem b_PL_rides_0 {C : CF} {d : Nat} {σ : HP} {a0 : Nat} (h1 : a0 % 64 = 11) (h2 : (gR σ a0 5).isSome = true) (h3 : (gR σ a0 1).isSome = true) (h4 : (dr (gR σ a0 5)) % 64 = 8) : runF C d m_PL_rides (0, [some (.ref a0)], [], σ) = bk C d m_PL_rides 8 [some (.ref a0)] [] (C m_Scales_mostRides [.ref (dr (gR σ a0 5)), .ref (dr (gR σ a0 1))] σ) := by
  refine (r_aloadn 0 (show decode (zb m_PL_rides) 0 = .ok (.aload_n 0, 1) from by decide +kernel) rfl).trans ?_
  refine (r_getR (show decode (zb m_PL_rides) 1 = .ok (.getfield 43, 3) from by decide +kernel) rfl rfl h1 h2).trans ?_
  refine (r_aloadn 0 (show decode (zb m_PL_rides) 4 = .ok (.aload_n 0, 1) from by decide +kernel) rfl).trans ?_
  refine (r_getR (show decode (zb m_PL_rides) 5 = .ok (.getfield 19, 3) from by decide +kernel) rfl rfl h1 h3).trans ?_
  exact r_virt (args := [.ref (dr (gR σ a0 1))]) (rest := []) (show decode (zb m_PL_rides) 8 = .ok (.invokevirtual 297, 3) from by decide +kernel) rfl rfl rfl h4
theorem b_PL_rides_11 {C : CF} {d : Nat} {σ : HP} {s0 : Int32} {l0 : Option Value}  : runF C d m_PL_rides (11, [l0], [.int s0], σ) = some (.inl (some (.int s0)), σ) := by
  exact r_iret (show decode (zb m_PL_rides) 11 = .ok (.ireturn, 1) from by decide +kernel) rfl rfl
theorem e_PL_isIn {d : Nat} {σ : HP} {x0 : Int32} {x1 : Int32} : callF (d + 1) m_PL_isIn [.int x0, .int x1] σ = runF (callF d) d m_PL_isIn (0, [some (.int x0), some (.int x1)], [], σ) := callF_in rfl rfl
theorem b_PL_isIn_0 {C : CF} {d : Nat} {σ : HP} {x0 : Int32} {x1 : Int32}  : runF C d m_PL_isIn (0, [some (.int x0), some (.int x1)], [], σ) = if ((p_shr x0 x1) &&& (1 : Int32)) = 0 then runF C d m_PL_isIn (12, [some (.int x0), some (.int x1)], [], σ) else runF C d m_PL_isIn (8, [some (.int x0), some (.int x1)], [], σ) := by
  refine (r_iloadn 0 (show decode (zb m_PL_isIn) 0 = .ok (.iload_n 0, 1) from by decide +kernel) rfl).trans ?_
  refine (r_iloadn 1 (show decode (zb m_PL_isIn) 1 = .ok (.iload_n 1, 1) from by decide +kernel) rfl).trans ?_
  refine (r_ishr (show decode (zb m_PL_isIn) 2 = .ok (.ishr, 1) from by decide +kernel)).trans ?_
  refine (r_iconst (v := (1 : Int32)) (show decode (zb m_PL_isIn) 3 = .ok (.iconst (1), 1) from by decide +kernel) (by decide)).trans ?_
  refine (r_iand (show decode (zb m_PL_isIn) 4 = .ok (.iand, 1) from by decide +kernel)).trans ?_
  exact r_if_eq 12 (show decode (zb m_PL_isIn) 5 = .ok (.ifCond .eq (7), 3) from by decide +kernel) rfl
theorem b_PL_isIn_8 {C : CF} {d : Nat} {σ : HP} {l0 : Option Value} {l1 : Option Value}  : runF C d m_PL_isIn (8, [l0, l1], [], σ) = runF C d m_PL_isIn (13, [l0, l1], [.int ((1 : Int32))], σ) := by
  refine (r_iconst (v := (1 : Int32)) (show decode (zb m_PL_isIn) 8 = .ok (.iconst (1), 1) from by decide +kernel) (by decide)).trans ?_
  exact r_goto 13 (show decode (zb m_PL_isIn) 9 = .ok (.goto (4), 3) from by decide +kernel) rfl
theorem b_PL_isIn_12 {C : CF} {d : Nat} {σ : HP} {l0 : Option Value} {l1 : Option Value}  : runF C d m_PL_isIn (12, [l0, l1], [], σ) = runF C d m_PL_isIn (13, [l0, l1], [.int ((0 : Int32))], σ) := by
  exact r_iconst (v := (0 : Int32)) (show decode (zb m_PL_isIn) 12 = .ok (.iconst (0), 1) from by decide +kernel) (by decide)
theorem b_PL_isIn_13 {C : CF} {d : Nat} {σ : HP} {s0 : Int32} {l0 : Option Value} {l1 : Option Value} (h1 : s0 = 0 ∨ s0 = 1) : runF C d m_PL_isIn (13, [l0, l1], [.int s0], σ) = some (.inl (some (.int s0)), σ) := by
  exact r_bret (show decode (zb m_PL_isIn) 13 = .ok (.ireturn, 1) from by decide +kernel) rfl h1
theorem e_PL_at {d : Nat} {σ : HP} {a0 : Nat} {x1 : Int32} : callF (d + 1) m_PL_at [.ref a0, .int x1] σ = runF (callF d) d m_PL_at (0, [some (.ref a0), some (.int x1)], [], σ) := callF_in rfl rfl
theorem b_PL_at_0 {C : CF} {d : Nat} {σ : HP} {x1 : Int32} {l0 : Option Value}  : runF C d m_PL_at (0, [l0, some (.int x1)], [], σ) = if x1 < 0 then runF C d m_PL_at (16, [l0, some (.int x1)], [], σ) else runF C d m_PL_at (4, [l0, some (.int x1)], [], σ) := by
  refine (r_iloadn 1 (show decode (zb m_PL_at) 0 = .ok (.iload_n 1, 1) from by decide +kernel) rfl).trans ?_
  exact r_if_lt 16 (show decode (zb m_PL_at) 1 = .ok (.ifCond .lt (15), 3) from by decide +kernel) rfl
theorem b_PL_at_4 {C : CF} {d : Nat} {σ : HP} {x1 : Int32} {a0 : Nat} (h1 : ¬ aty (a0 % 64) = 0) : runF C d m_PL_at (4, [some (.ref a0), some (.int x1)], [], σ) = if (Int32.ofNat (alen (a0 % 64))) ≤ x1 then runF C d m_PL_at (16, [some (.ref a0), some (.int x1)], [], σ) else runF C d m_PL_at (10, [some (.ref a0), some (.int x1)], [], σ) := by
  refine (r_iloadn 1 (show decode (zb m_PL_at) 4 = .ok (.iload_n 1, 1) from by decide +kernel) rfl).trans ?_
  refine (r_aloadn 0 (show decode (zb m_PL_at) 5 = .ok (.aload_n 0, 1) from by decide +kernel) rfl).trans ?_
  refine (r_alen (show decode (zb m_PL_at) 6 = .ok (.arraylength, 1) from by decide +kernel) h1).trans ?_
  exact r_icmp_ge 16 (show decode (zb m_PL_at) 7 = .ok (.if_icmp .ge (9), 3) from by decide +kernel) rfl
theorem b_PL_at_10 {C : CF} {d : Nat} {σ : HP} {a0 : Nat} {x1 : Int32} (h1 : aty (a0 % 64) = 1) (h2 : inR x1 (alen (a0 % 64)) = true) : runF C d m_PL_at (10, [some (.ref a0), some (.int x1)], [], σ) = runF C d m_PL_at (17, [some (.ref a0), some (.int x1)], [.int (gI σ a0 (Int32.toNatClampNeg x1))], σ) := by
  refine (r_aloadn 0 (show decode (zb m_PL_at) 10 = .ok (.aload_n 0, 1) from by decide +kernel) rfl).trans ?_
  refine (r_iloadn 1 (show decode (zb m_PL_at) 11 = .ok (.iload_n 1, 1) from by decide +kernel) rfl).trans ?_
  refine (r_iald (show decode (zb m_PL_at) 12 = .ok (.iaload, 1) from by decide +kernel) h1 h2).trans ?_
  exact r_goto 17 (show decode (zb m_PL_at) 13 = .ok (.goto (4), 3) from by decide +kernel) rfl
theorem b_PL_at_16 {C : CF} {d : Nat} {σ : HP} {l0 : Option Value} {l1 : Option Value}  : runF C d m_PL_at (16, [l0, l1], [], σ) = runF C d m_PL_at (17, [l0, l1], [.int ((0 : Int32))], σ) := by
  exact r_iconst (v := (0 : Int32)) (show decode (zb m_PL_at) 16 = .ok (.iconst (0), 1) from by decide +kernel) (by decide)
theorem b_PL_at_17 {C : CF} {d : Nat} {σ : HP} {s0 : Int32} {l0 : Option Value} {l1 : Option Value}  : runF C d m_PL_at (17, [l0, l1], [.int s0], σ) = some (.inl (some (.int s0)), σ) := by
  exact r_iret (show decode (zb m_PL_at) 17 = .ok (.ireturn, 1) from by decide +kernel) rfl rfl
theorem e_PL_put {d : Nat} {σ : HP} {a0 : Nat} {x1 : Int32} {x2 : Int32} : callF (d + 1) m_PL_put [.ref a0, .int x1, .int x2] σ = runF (callF d) d m_PL_put (0, [some (.ref a0), some (.int x1), some (.int x2)], [], σ) := callF_in rfl rfl
theorem b_PL_put_0 {C : CF} {d : Nat} {σ : HP} {x1 : Int32} {l0 : Option Value} {l2 : Option Value}  : runF C d m_PL_put (0, [l0, some (.int x1), l2], [], σ) = if x1 < 0 then runF C d m_PL_put (14, [l0, some (.int x1), l2], [], σ) else runF C d m_PL_put (4, [l0, some (.int x1), l2], [], σ) := by
  refine (r_iloadn 1 (show decode (zb m_PL_put) 0 = .ok (.iload_n 1, 1) from by decide +kernel) rfl).trans ?_
  exact r_if_lt 14 (show decode (zb m_PL_put) 1 = .ok (.ifCond .lt (13), 3) from by decide +kernel) rfl
theorem b_PL_put_4 {C : CF} {d : Nat} {σ : HP} {x1 : Int32} {a0 : Nat} {l2 : Option Value} (h1 : ¬ aty (a0 % 64) = 0) : runF C d m_PL_put (4, [some (.ref a0), some (.int x1), l2], [], σ) = if (Int32.ofNat (alen (a0 % 64))) ≤ x1 then runF C d m_PL_put (14, [some (.ref a0), some (.int x1), l2], [], σ) else runF C d m_PL_put (10, [some (.ref a0), some (.int x1), l2], [], σ) := by
  refine (r_iloadn 1 (show decode (zb m_PL_put) 4 = .ok (.iload_n 1, 1) from by decide +kernel) rfl).trans ?_
  refine (r_aloadn 0 (show decode (zb m_PL_put) 5 = .ok (.aload_n 0, 1) from by decide +kernel) rfl).trans ?_
  refine (r_alen (show decode (zb m_PL_put) 6 = .ok (.arraylength, 1) from by decide +kernel) h1).trans ?_
  exact r_icmp_ge 14 (show decode (zb m_PL_put) 7 = .ok (.if_icmp .ge (7), 3) from by decide +kernel) rfl
theorem b_PL_put_10 {C : CF} {d : Nat} {σ : HP} {a0 : Nat} {x1 : Int32} {x2 : Int32} (h1 : aty (a0 % 64) = 1) (h2 : inR x1 (alen (a0 % 64)) = true) : runF C d m_PL_put (10, [some (.ref a0), some (.int x1), some (.int x2)], [], σ) = runF C d m_PL_put (14, [some (.ref a0), some (.int x1), some (.int x2)], [], wI σ a0 (Int32.toNatClampNeg x1) x2) := by
  refine (r_aloadn 0 (show decode (zb m_PL_put) 10 = .ok (.aload_n 0, 1) from by decide +kernel) rfl).trans ?_
  refine (r_iloadn 1 (show decode (zb m_PL_put) 11 = .ok (.iload_n 1, 1) from by decide +kernel) rfl).trans ?_
  refine (r_iloadn 2 (show decode (zb m_PL_put) 12 = .ok (.iload_n 2, 1) from by decide +kernel) rfl).trans ?_
  exact r_iast (show decode (zb m_PL_put) 13 = .ok (.iastore, 1) from by decide +kernel) h1 h2
theorem b_PL_put_14 {C : CF} {d : Nat} {σ : HP} {l0 : Option Value} {l1 : Option Value} {l2 : Option Value}  : runF C d m_PL_put (14, [l0, l1, l2], [], σ) = some (.inl none, σ) := by
  exact r_vret (show decode (zb m_PL_put) 14 = .ok (.return_, 1) from by decide +kernel) rfl
theorem e_PL_waiting {d : Nat} {σ : HP} {a0 : Nat} : callF (d + 1) m_PL_waiting [.ref a0] σ = runF (callF d) d m_PL_waiting (0, [some (.ref a0), none, none], [], σ) := callF_in rfl rfl
theorem b_PL_waiting_0 {C : CF} {d : Nat} {σ : HP} {l0 : Option Value} {l1 : Option Value} {l2 : Option Value}  : runF C d m_PL_waiting (0, [l0, l1, l2], [], σ) = runF C d m_PL_waiting (4, [l0, some (.int ((0 : Int32))), some (.int ((0 : Int32)))], [], σ) := by
  refine (r_iconst (v := (0 : Int32)) (show decode (zb m_PL_waiting) 0 = .ok (.iconst (0), 1) from by decide +kernel) (by decide)).trans ?_
  refine (r_istoren 1 (show decode (zb m_PL_waiting) 1 = .ok (.istore_n 1, 1) from by decide +kernel) rfl).trans ?_
  refine (r_iconst (v := (0 : Int32)) (show decode (zb m_PL_waiting) 2 = .ok (.iconst (0), 1) from by decide +kernel) (by decide)).trans ?_
  exact r_istoren 2 (show decode (zb m_PL_waiting) 3 = .ok (.istore_n 2, 1) from by decide +kernel) rfl
theorem b_PL_waiting_4 {C : CF} {d : Nat} {σ : HP} {x2 : Int32} {a0 : Nat} {l1 : Option Value} (h1 : a0 % 64 = 11) (h2 : (gR σ a0 1).isSome = true) (h3 : (dr (gR σ a0 1)) % 64 = 5) (h4 : (gR σ (dr (gR σ a0 1)) 0).isSome = true) (h5 : (dr (gR σ (dr (gR σ a0 1)) 0)) % 64 = 2) : runF C d m_PL_waiting (4, [some (.ref a0), l1, some (.int x2)], [], σ) = if (gI σ (dr (gR σ (dr (gR σ a0 1)) 0)) 1) ≤ x2 then runF C d m_PL_waiting (41, [some (.ref a0), l1, some (.int x2)], [], σ) else runF C d m_PL_waiting (18, [some (.ref a0), l1, some (.int x2)], [], σ) := by
  refine (r_iloadn 2 (show decode (zb m_PL_waiting) 4 = .ok (.iload_n 2, 1) from by decide +kernel) rfl).trans ?_
  refine (r_aloadn 0 (show decode (zb m_PL_waiting) 5 = .ok (.aload_n 0, 1) from by decide +kernel) rfl).trans ?_
  refine (r_getR (show decode (zb m_PL_waiting) 6 = .ok (.getfield 19, 3) from by decide +kernel) rfl rfl h1 h2).trans ?_
  refine (r_getR (show decode (zb m_PL_waiting) 9 = .ok (.getfield 138, 3) from by decide +kernel) rfl rfl h3 h4).trans ?_
  refine (r_getI (show decode (zb m_PL_waiting) 12 = .ok (.getfield 116, 3) from by decide +kernel) rfl rfl h5).trans ?_
  exact r_icmp_ge 41 (show decode (zb m_PL_waiting) 15 = .ok (.if_icmp .ge (26), 3) from by decide +kernel) rfl
theorem b_PL_waiting_18 {C : CF} {d : Nat} {σ : HP} {a0 : Nat} {x2 : Int32} {l1 : Option Value} (h1 : a0 % 64 = 11) (h2 : (gR σ a0 1).isSome = true) (h3 : (dr (gR σ a0 1)) % 64 = 5) : runF C d m_PL_waiting (18, [some (.ref a0), l1, some (.int x2)], [], σ) = bk C d m_PL_waiting 23 [some (.ref a0), l1, some (.int x2)] [] (C m_Lift_canEnter [.ref (dr (gR σ a0 1)), .int x2] σ) := by
  refine (r_aloadn 0 (show decode (zb m_PL_waiting) 18 = .ok (.aload_n 0, 1) from by decide +kernel) rfl).trans ?_
  refine (r_getR (show decode (zb m_PL_waiting) 19 = .ok (.getfield 19, 3) from by decide +kernel) rfl rfl h1 h2).trans ?_
  refine (r_iloadn 2 (show decode (zb m_PL_waiting) 22 = .ok (.iload_n 2, 1) from by decide +kernel) rfl).trans ?_
  exact r_virt (args := [.int x2]) (rest := []) (show decode (zb m_PL_waiting) 23 = .ok (.invokevirtual 355, 3) from by decide +kernel) rfl rfl rfl h3
theorem b_PL_waiting_26 {C : CF} {d : Nat} {σ : HP} {s0 : Int32} {l0 : Option Value} {l1 : Option Value} {l2 : Option Value}  : runF C d m_PL_waiting (26, [l0, l1, l2], [.int s0], σ) = if s0 = 0 then runF C d m_PL_waiting (35, [l0, l1, l2], [], σ) else runF C d m_PL_waiting (29, [l0, l1, l2], [], σ) := by
  exact r_if_eq 35 (show decode (zb m_PL_waiting) 26 = .ok (.ifCond .eq (9), 3) from by decide +kernel) rfl
theorem b_PL_waiting_29 {C : CF} {d : Nat} {σ : HP} {x1 : Int32} {x2 : Int32} {l0 : Option Value}  : runF C d m_PL_waiting (29, [l0, some (.int x1), some (.int x2)], [], σ) = runF C d m_PL_waiting (35, [l0, some (.int (x1 ||| (p_shl (1 : Int32) x2))), some (.int x2)], [], σ) := by
  refine (r_iloadn 1 (show decode (zb m_PL_waiting) 29 = .ok (.iload_n 1, 1) from by decide +kernel) rfl).trans ?_
  refine (r_iconst (v := (1 : Int32)) (show decode (zb m_PL_waiting) 30 = .ok (.iconst (1), 1) from by decide +kernel) (by decide)).trans ?_
  refine (r_iloadn 2 (show decode (zb m_PL_waiting) 31 = .ok (.iload_n 2, 1) from by decide +kernel) rfl).trans ?_
  refine (r_ishl (show decode (zb m_PL_waiting) 32 = .ok (.ishl, 1) from by decide +kernel)).trans ?_
  refine (r_ior (show decode (zb m_PL_waiting) 33 = .ok (.ior, 1) from by decide +kernel)).trans ?_
  exact r_istoren 1 (show decode (zb m_PL_waiting) 34 = .ok (.istore_n 1, 1) from by decide +kernel) rfl
theorem b_PL_waiting_35 {C : CF} {d : Nat} {σ : HP} {x2 : Int32} {l0 : Option Value} {l1 : Option Value}  : runF C d m_PL_waiting (35, [l0, l1, some (.int x2)], [], σ) = runF C d m_PL_waiting (4, [l0, l1, some (.int (x2 + (1 : Int32)))], [], σ) := by
  refine (r_iinc 2 (v := (1 : Int32)) (show decode (zb m_PL_waiting) 35 = .ok (.iinc 2 (1), 3) from by decide +kernel) rfl rfl (by decide)).trans ?_
  exact r_goto 4 (show decode (zb m_PL_waiting) 38 = .ok (.goto (-34), 3) from by decide +kernel) rfl
theorem b_PL_waiting_41 {C : CF} {d : Nat} {σ : HP} {x1 : Int32} {l0 : Option Value} {l2 : Option Value}  : runF C d m_PL_waiting (41, [l0, some (.int x1), l2], [], σ) = some (.inl (some (.int x1)), σ) := by
  refine (r_iloadn 1 (show decode (zb m_PL_waiting) 41 = .ok (.iload_n 1, 1) from by decide +kernel) rfl).trans ?_
  exact r_iret (show decode (zb m_PL_waiting) 42 = .ok (.ireturn, 1) from by decide +kernel) rfl rfl
theorem e_PL_lacks {d : Nat} {σ : HP} {a0 : Nat} : callF (d + 1) m_PL_lacks [.ref a0] σ = runF (callF d) d m_PL_lacks (0, [some (.ref a0)], [], σ) := callF_in rfl rfl
theorem b_PL_lacks_0 {C : CF} {d : Nat} {σ : HP} {a0 : Nat} (h1 : a0 % 64 = 11) (h2 : (gR σ a0 1).isSome = true) (h3 : (dr (gR σ a0 1)) % 64 = 5) (h4 : (gR σ (dr (gR σ a0 1)) 0).isSome = true) (h5 : (dr (gR σ (dr (gR σ a0 1)) 0)) % 64 = 2) : runF C d m_PL_lacks (0, [some (.ref a0)], [], σ) = bk C d m_PL_lacks 16 [some (.ref a0)] [.int ((gI σ (dr (gR σ (dr (gR σ a0 1)) 0)) 3) + (1 : Int32))] (C m_Lift_loadNow [.ref (dr (gR σ a0 1))] σ) := by
  refine (r_aloadn 0 (show decode (zb m_PL_lacks) 0 = .ok (.aload_n 0, 1) from by decide +kernel) rfl).trans ?_
  refine (r_getR (show decode (zb m_PL_lacks) 1 = .ok (.getfield 19, 3) from by decide +kernel) rfl rfl h1 h2).trans ?_
  refine (r_getR (show decode (zb m_PL_lacks) 4 = .ok (.getfield 138, 3) from by decide +kernel) rfl rfl h3 h4).trans ?_
  refine (r_getI (show decode (zb m_PL_lacks) 7 = .ok (.getfield 209, 3) from by decide +kernel) rfl rfl h5).trans ?_
  refine (r_iconst (v := (1 : Int32)) (show decode (zb m_PL_lacks) 10 = .ok (.iconst (1), 1) from by decide +kernel) (by decide)).trans ?_
  refine (r_iadd (show decode (zb m_PL_lacks) 11 = .ok (.iadd, 1) from by decide +kernel)).trans ?_
  refine (r_aloadn 0 (show decode (zb m_PL_lacks) 12 = .ok (.aload_n 0, 1) from by decide +kernel) rfl).trans ?_
  refine (r_getR (show decode (zb m_PL_lacks) 13 = .ok (.getfield 19, 3) from by decide +kernel) rfl rfl h1 h2).trans ?_
  exact r_virt (args := []) (rest := [.int ((gI σ (dr (gR σ (dr (gR σ a0 1)) 0)) 3) + (1 : Int32))]) (show decode (zb m_PL_lacks) 16 = .ok (.invokevirtual 202, 3) from by decide +kernel) rfl rfl rfl h3
theorem b_PL_lacks_19 {C : CF} {d : Nat} {σ : HP} {s0 : Int32} {s1 : Int32} {l0 : Option Value}  : runF C d m_PL_lacks (19, [l0], [.int s0, .int s1], σ) = some (.inl (some (.int (s1 - s0))), σ) := by
  refine (r_isub (show decode (zb m_PL_lacks) 19 = .ok (.isub, 1) from by decide +kernel)).trans ?_
  exact r_iret (show decode (zb m_PL_lacks) 20 = .ok (.ireturn, 1) from by decide +kernel) rfl rfl
theorem e_PL_vacant {d : Nat} {σ : HP} {a0 : Nat} : callF (d + 1) m_PL_vacant [.ref a0] σ = runF (callF d) d m_PL_vacant (0, [some (.ref a0), none, none], [], σ) := callF_in rfl rfl
theorem b_PL_vacant_0 {C : CF} {d : Nat} {σ : HP} {a0 : Nat} {l1 : Option Value} {l2 : Option Value} (h1 : a0 % 64 = 11) (h2 : (gR σ a0 1).isSome = true) (h3 : (dr (gR σ a0 1)) % 64 = 5) (h4 : (gR σ (dr (gR σ a0 1)) 0).isSome = true) (h5 : (dr (gR σ (dr (gR σ a0 1)) 0)) % 64 = 2) : runF C d m_PL_vacant (0, [some (.ref a0), l1, l2], [], σ) = runF C d m_PL_vacant (17, [some (.ref a0), some (.int ((p_shl (1 : Int32) (gI σ (dr (gR σ (dr (gR σ a0 1)) 0)) 0)) - (1 : Int32))), some (.int ((0 : Int32)))], [], σ) := by
  refine (r_iconst (v := (1 : Int32)) (show decode (zb m_PL_vacant) 0 = .ok (.iconst (1), 1) from by decide +kernel) (by decide)).trans ?_
  refine (r_aloadn 0 (show decode (zb m_PL_vacant) 1 = .ok (.aload_n 0, 1) from by decide +kernel) rfl).trans ?_
  refine (r_getR (show decode (zb m_PL_vacant) 2 = .ok (.getfield 19, 3) from by decide +kernel) rfl rfl h1 h2).trans ?_
  refine (r_getR (show decode (zb m_PL_vacant) 5 = .ok (.getfield 138, 3) from by decide +kernel) rfl rfl h3 h4).trans ?_
  refine (r_getI (show decode (zb m_PL_vacant) 8 = .ok (.getfield 185, 3) from by decide +kernel) rfl rfl h5).trans ?_
  refine (r_ishl (show decode (zb m_PL_vacant) 11 = .ok (.ishl, 1) from by decide +kernel)).trans ?_
  refine (r_iconst (v := (1 : Int32)) (show decode (zb m_PL_vacant) 12 = .ok (.iconst (1), 1) from by decide +kernel) (by decide)).trans ?_
  refine (r_isub (show decode (zb m_PL_vacant) 13 = .ok (.isub, 1) from by decide +kernel)).trans ?_
  refine (r_istoren 1 (show decode (zb m_PL_vacant) 14 = .ok (.istore_n 1, 1) from by decide +kernel) rfl).trans ?_
  refine (r_iconst (v := (0 : Int32)) (show decode (zb m_PL_vacant) 15 = .ok (.iconst (0), 1) from by decide +kernel) (by decide)).trans ?_
  exact r_istoren 2 (show decode (zb m_PL_vacant) 16 = .ok (.istore_n 2, 1) from by decide +kernel) rfl
theorem b_PL_vacant_17 {C : CF} {d : Nat} {σ : HP} {x2 : Int32} {a0 : Nat} {l1 : Option Value} (h1 : a0 % 64 = 11) (h2 : (gR σ a0 1).isSome = true) (h3 : (dr (gR σ a0 1)) % 64 = 5) (h4 : (gR σ (dr (gR σ a0 1)) 0).isSome = true) (h5 : (dr (gR σ (dr (gR σ a0 1)) 0)) % 64 = 2) : runF C d m_PL_vacant (17, [some (.ref a0), l1, some (.int x2)], [], σ) = if (gI σ (dr (gR σ (dr (gR σ a0 1)) 0)) 1) ≤ x2 then runF C d m_PL_vacant (52, [some (.ref a0), l1, some (.int x2)], [], σ) else runF C d m_PL_vacant (31, [some (.ref a0), l1, some (.int x2)], [], σ) := by
  refine (r_iloadn 2 (show decode (zb m_PL_vacant) 17 = .ok (.iload_n 2, 1) from by decide +kernel) rfl).trans ?_
  refine (r_aloadn 0 (show decode (zb m_PL_vacant) 18 = .ok (.aload_n 0, 1) from by decide +kernel) rfl).trans ?_
  refine (r_getR (show decode (zb m_PL_vacant) 19 = .ok (.getfield 19, 3) from by decide +kernel) rfl rfl h1 h2).trans ?_
  refine (r_getR (show decode (zb m_PL_vacant) 22 = .ok (.getfield 138, 3) from by decide +kernel) rfl rfl h3 h4).trans ?_
  refine (r_getI (show decode (zb m_PL_vacant) 25 = .ok (.getfield 116, 3) from by decide +kernel) rfl rfl h5).trans ?_
  exact r_icmp_ge 52 (show decode (zb m_PL_vacant) 28 = .ok (.if_icmp .ge (24), 3) from by decide +kernel) rfl
theorem b_PL_vacant_31 {C : CF} {d : Nat} {σ : HP} {x1 : Int32} {a0 : Nat} {x2 : Int32} (h1 : a0 % 64 = 11) (h2 : (gR σ a0 1).isSome = true) (h3 : (dr (gR σ a0 1)) % 64 = 5) : runF C d m_PL_vacant (31, [some (.ref a0), some (.int x1), some (.int x2)], [], σ) = bk C d m_PL_vacant 38 [some (.ref a0), some (.int x1), some (.int x2)] [.int ((1 : Int32)), .int x1] (C m_Lift_placeOf [.ref (dr (gR σ a0 1)), .int x2] σ) := by
  refine (r_iloadn 1 (show decode (zb m_PL_vacant) 31 = .ok (.iload_n 1, 1) from by decide +kernel) rfl).trans ?_
  refine (r_iconst (v := (1 : Int32)) (show decode (zb m_PL_vacant) 32 = .ok (.iconst (1), 1) from by decide +kernel) (by decide)).trans ?_
  refine (r_aloadn 0 (show decode (zb m_PL_vacant) 33 = .ok (.aload_n 0, 1) from by decide +kernel) rfl).trans ?_
  refine (r_getR (show decode (zb m_PL_vacant) 34 = .ok (.getfield 19, 3) from by decide +kernel) rfl rfl h1 h2).trans ?_
  refine (r_iloadn 2 (show decode (zb m_PL_vacant) 37 = .ok (.iload_n 2, 1) from by decide +kernel) rfl).trans ?_
  exact r_virt (args := [.int x2]) (rest := [.int ((1 : Int32)), .int x1]) (show decode (zb m_PL_vacant) 38 = .ok (.invokevirtual 218, 3) from by decide +kernel) rfl rfl rfl h3
theorem b_PL_vacant_41 {C : CF} {d : Nat} {σ : HP} {s0 : Int32} {s1 : Int32} {s2 : Int32} {x2 : Int32} {l0 : Option Value} {l1 : Option Value}  : runF C d m_PL_vacant (41, [l0, l1, some (.int x2)], [.int s0, .int s1, .int s2], σ) = runF C d m_PL_vacant (17, [l0, some (.int (s2 &&& ((p_shl s1 s0) ^^^ (-1 : Int32)))), some (.int (x2 + (1 : Int32)))], [], σ) := by
  refine (r_ishl (show decode (zb m_PL_vacant) 41 = .ok (.ishl, 1) from by decide +kernel)).trans ?_
  refine (r_iconst (v := (-1 : Int32)) (show decode (zb m_PL_vacant) 42 = .ok (.iconst (-1), 1) from by decide +kernel) (by decide)).trans ?_
  refine (r_ixor (show decode (zb m_PL_vacant) 43 = .ok (.ixor, 1) from by decide +kernel)).trans ?_
  refine (r_iand (show decode (zb m_PL_vacant) 44 = .ok (.iand, 1) from by decide +kernel)).trans ?_
  refine (r_istoren 1 (show decode (zb m_PL_vacant) 45 = .ok (.istore_n 1, 1) from by decide +kernel) rfl).trans ?_
  refine (r_iinc 2 (v := (1 : Int32)) (show decode (zb m_PL_vacant) 46 = .ok (.iinc 2 (1), 3) from by decide +kernel) rfl rfl (by decide)).trans ?_
  exact r_goto 17 (show decode (zb m_PL_vacant) 49 = .ok (.goto (-32), 3) from by decide +kernel) rfl
theorem b_PL_vacant_52 {C : CF} {d : Nat} {σ : HP} {x1 : Int32} {l0 : Option Value} {l2 : Option Value}  : runF C d m_PL_vacant (52, [l0, some (.int x1), l2], [], σ) = some (.inl (some (.int x1)), σ) := by
  refine (r_iloadn 1 (show decode (zb m_PL_vacant) 52 = .ok (.iload_n 1, 1) from by decide +kernel) rfl).trans ?_
  exact r_iret (show decode (zb m_PL_vacant) 53 = .ok (.ireturn, 1) from by decide +kernel) rfl rfl
theorem e_PL_image {d : Nat} {σ : HP} {a0 : Nat} : callF (d + 1) m_PL_image [.ref a0] σ = runF (callF d) d m_PL_image (0, [some (.ref a0)], [], σ) := callF_in rfl rfl
theorem b_PL_image_0 {C : CF} {d : Nat} {σ : HP} {a0 : Nat} (h1 : a0 % 64 = 11) (h2 : (gR σ a0 4).isSome = true) (h3 : (gR σ a0 1).isSome = true) (h4 : (dr (gR σ a0 1)) % 64 = 5) (h5 : (gR σ (dr (gR σ a0 1)) 2).isSome = true) (h6 : (dr (gR σ a0 4)) % 64 = 6) : runF C d m_PL_image (0, [some (.ref a0)], [], σ) = bk C d m_PL_image 11 [some (.ref a0)] [] (C m_Past_keepImage [.ref (dr (gR σ a0 4)), .ref (dr (gR σ (dr (gR σ a0 1)) 2))] σ) := by
  refine (r_aloadn 0 (show decode (zb m_PL_image) 0 = .ok (.aload_n 0, 1) from by decide +kernel) rfl).trans ?_
  refine (r_getR (show decode (zb m_PL_image) 1 = .ok (.getfield 36, 3) from by decide +kernel) rfl rfl h1 h2).trans ?_
  refine (r_aloadn 0 (show decode (zb m_PL_image) 4 = .ok (.aload_n 0, 1) from by decide +kernel) rfl).trans ?_
  refine (r_getR (show decode (zb m_PL_image) 5 = .ok (.getfield 19, 3) from by decide +kernel) rfl rfl h1 h3).trans ?_
  refine (r_getR (show decode (zb m_PL_image) 8 = .ok (.getfield 146, 3) from by decide +kernel) rfl rfl h4 h5).trans ?_
  exact r_virt (args := [.ref (dr (gR σ (dr (gR σ a0 1)) 2))]) (rest := []) (show decode (zb m_PL_image) 11 = .ok (.invokevirtual 377, 3) from by decide +kernel) rfl rfl rfl h6
theorem b_PL_image_14 {C : CF} {d : Nat} {σ : HP} {s0 : Int32} {l0 : Option Value}  : runF C d m_PL_image (14, [l0], [.int s0], σ) = some (.inl (some (.int s0)), σ) := by
  exact r_iret (show decode (zb m_PL_image) 14 = .ok (.ireturn, 1) from by decide +kernel) rfl rfl
theorem e_PL_restore {d : Nat} {σ : HP} {a0 : Nat} : callF (d + 1) m_PL_restore [.ref a0] σ = runF (callF d) d m_PL_restore (0, [some (.ref a0), none], [], σ) := callF_in rfl rfl
theorem b_PL_restore_0 {C : CF} {d : Nat} {σ : HP} {a0 : Nat} {l1 : Option Value} (h1 : a0 % 64 = 11) (h2 : (gR σ a0 4).isSome = true) (h3 : (gR σ a0 1).isSome = true) (h4 : (dr (gR σ a0 1)) % 64 = 5) (h5 : (gR σ (dr (gR σ a0 1)) 2).isSome = true) (h6 : (dr (gR σ a0 4)) % 64 = 6) : runF C d m_PL_restore (0, [some (.ref a0), l1], [], σ) = bk C d m_PL_restore 11 [some (.ref a0), l1] [] (C m_Past_restoreImage [.ref (dr (gR σ a0 4)), .ref (dr (gR σ (dr (gR σ a0 1)) 2))] σ) := by
  refine (r_aloadn 0 (show decode (zb m_PL_restore) 0 = .ok (.aload_n 0, 1) from by decide +kernel) rfl).trans ?_
  refine (r_getR (show decode (zb m_PL_restore) 1 = .ok (.getfield 36, 3) from by decide +kernel) rfl rfl h1 h2).trans ?_
  refine (r_aloadn 0 (show decode (zb m_PL_restore) 4 = .ok (.aload_n 0, 1) from by decide +kernel) rfl).trans ?_
  refine (r_getR (show decode (zb m_PL_restore) 5 = .ok (.getfield 19, 3) from by decide +kernel) rfl rfl h1 h3).trans ?_
  refine (r_getR (show decode (zb m_PL_restore) 8 = .ok (.getfield 146, 3) from by decide +kernel) rfl rfl h4 h5).trans ?_
  exact r_virt (args := [.ref (dr (gR σ (dr (gR σ a0 1)) 2))]) (rest := []) (show decode (zb m_PL_restore) 11 = .ok (.invokevirtual 380, 3) from by decide +kernel) rfl rfl rfl h6
theorem b_PL_restore_14 {C : CF} {d : Nat} {σ : HP} {s0 : Int32} {l0 : Option Value} {l1 : Option Value}  : runF C d m_PL_restore (14, [l0, l1], [.int s0], σ) = if s0 = (-1 : Int32) then runF C d m_PL_restore (25, [l0, some (.int s0)], [], σ) else runF C d m_PL_restore (20, [l0, some (.int s0)], [], σ) := by
  refine (r_istoren 1 (show decode (zb m_PL_restore) 14 = .ok (.istore_n 1, 1) from by decide +kernel) rfl).trans ?_
  refine (r_iloadn 1 (show decode (zb m_PL_restore) 15 = .ok (.iload_n 1, 1) from by decide +kernel) rfl).trans ?_
  refine (r_iconst (v := (-1 : Int32)) (show decode (zb m_PL_restore) 16 = .ok (.iconst (-1), 1) from by decide +kernel) (by decide)).trans ?_
  exact r_icmp_eq 25 (show decode (zb m_PL_restore) 17 = .ok (.if_icmp .eq (8), 3) from by decide +kernel) rfl
theorem b_PL_restore_20 {C : CF} {d : Nat} {σ : HP} {a0 : Nat} {l1 : Option Value} (h1 : a0 % 64 = 11) : runF C d m_PL_restore (20, [some (.ref a0), l1], [], σ) = runF C d m_PL_restore (25, [some (.ref a0), l1], [], wI σ a0 12 (0 : Int32)) := by
  refine (r_aloadn 0 (show decode (zb m_PL_restore) 20 = .ok (.aload_n 0, 1) from by decide +kernel) rfl).trans ?_
  refine (r_iconst (v := (0 : Int32)) (show decode (zb m_PL_restore) 21 = .ok (.iconst (0), 1) from by decide +kernel) (by decide)).trans ?_
  exact r_putI (show decode (zb m_PL_restore) 22 = .ok (.putfield 78, 3) from by decide +kernel) rfl rfl rfl h1
theorem b_PL_restore_25 {C : CF} {d : Nat} {σ : HP} {x1 : Int32} {l0 : Option Value}  : runF C d m_PL_restore (25, [l0, some (.int x1)], [], σ) = some (.inl (some (.int x1)), σ) := by
  refine (r_iloadn 1 (show decode (zb m_PL_restore) 25 = .ok (.iload_n 1, 1) from by decide +kernel) rfl).trans ?_
  exact r_iret (show decode (zb m_PL_restore) 26 = .ok (.ireturn, 1) from by decide +kernel) rfl rfl
theorem e_PL_status {d : Nat} {σ : HP} {a0 : Nat} {x1 : Int32} : callF (d + 1) m_PL_status [.ref a0, .int x1] σ = runF (callF d) d m_PL_status (0, [some (.ref a0), some (.int x1)], [], σ) := callF_in rfl rfl
theorem b_PL_status_0 {C : CF} {d : Nat} {σ : HP} {x1 : Int32} {l0 : Option Value}  : runF C d m_PL_status (0, [l0, some (.int x1)], [], σ) = if x1 = 0 then runF C d m_PL_status (28, [l0, some (.int x1)], [], σ) else if x1 = 1 then runF C d m_PL_status (33, [l0, some (.int x1)], [], σ) else runF C d m_PL_status (38, [l0, some (.int x1)], [], σ) := by
  refine (r_iloadn 1 (show decode (zb m_PL_status) 0 = .ok (.iload_n 1, 1) from by decide +kernel) rfl).trans ?_
  by_cases q0 : x1 = 0
  · rw [if_pos q0]
    exact r_look 28 (show decode (zb m_PL_status) 1 = .ok (.lookupswitch (37) #[((0), (27)), ((1), (32))], 27) from by decide +kernel) (lk_any rfl (by rw [q0]; rfl))
  rw [if_neg q0]
  by_cases q1 : x1 = 1
  · rw [if_pos q1]
    exact r_look 33 (show decode (zb m_PL_status) 1 = .ok (.lookupswitch (37) #[((0), (27)), ((1), (32))], 27) from by decide +kernel) (lk_any rfl (by rw [q1]; rfl))
  rw [if_neg q1]
  have e0 : (Int32.toInt x1) ≠ 0 := ne_toInt q0
  have e1 : (Int32.toInt x1) ≠ 1 := ne_toInt q1
  exact r_look 38 (show decode (zb m_PL_status) 1 = .ok (.lookupswitch (37) #[((0), (27)), ((1), (32))], 27) from by decide +kernel) (lk_any rfl (by simp [Op.lookupswitch.offset, e0, (Ne.symm e0), e1, (Ne.symm e1)]))
theorem b_PL_status_28 {C : CF} {d : Nat} {σ : HP} {a0 : Nat} {l1 : Option Value} (h1 : a0 % 64 = 11) : runF C d m_PL_status (28, [some (.ref a0), l1], [], σ) = some (.inl (some (.int (gI σ a0 13))), σ) := by
  refine (r_aloadn 0 (show decode (zb m_PL_status) 28 = .ok (.aload_n 0, 1) from by decide +kernel) rfl).trans ?_
  refine (r_getI (show decode (zb m_PL_status) 29 = .ok (.getfield 81, 3) from by decide +kernel) rfl rfl h1).trans ?_
  exact r_iret (show decode (zb m_PL_status) 32 = .ok (.ireturn, 1) from by decide +kernel) rfl rfl
theorem b_PL_status_33 {C : CF} {d : Nat} {σ : HP} {a0 : Nat} {l1 : Option Value} (h1 : a0 % 64 = 11) : runF C d m_PL_status (33, [some (.ref a0), l1], [], σ) = some (.inl (some (.int (gI σ a0 14))), σ) := by
  refine (r_aloadn 0 (show decode (zb m_PL_status) 33 = .ok (.aload_n 0, 1) from by decide +kernel) rfl).trans ?_
  refine (r_getI (show decode (zb m_PL_status) 34 = .ok (.getfield 84, 3) from by decide +kernel) rfl rfl h1).trans ?_
  exact r_iret (show decode (zb m_PL_status) 37 = .ok (.ireturn, 1) from by decide +kernel) rfl rfl
theorem b_PL_status_38 {C : CF} {d : Nat} {σ : HP} {l0 : Option Value} {l1 : Option Value}  : runF C d m_PL_status (38, [l0, l1], [], σ) = some (.inl (some (.int (-1 : Int32))), σ) := by
  refine (r_iconst (v := (-1 : Int32)) (show decode (zb m_PL_status) 38 = .ok (.iconst (-1), 1) from by decide +kernel) (by decide)).trans ?_
  exact r_iret (show decode (zb m_PL_status) 39 = .ok (.ireturn, 1) from by decide +kernel) rfl rfl
theorem e_PL_count {d : Nat} {σ : HP} {a0 : Nat} {x1 : Int32} : callF (d + 1) m_PL_count [.ref a0, .int x1] σ = runF (callF d) d m_PL_count (0, [some (.ref a0), some (.int x1)], [], σ) := callF_in rfl rfl
theorem b_PL_count_0 {C : CF} {d : Nat} {σ : HP} {x1 : Int32} {l0 : Option Value}  : runF C d m_PL_count (0, [l0, some (.int x1)], [], σ) = if x1 = 0 then runF C d m_PL_count (28, [l0, some (.int x1)], [], σ) else if x1 = 1 then runF C d m_PL_count (36, [l0, some (.int x1)], [], σ) else if x1 = 2 then runF C d m_PL_count (41, [l0, some (.int x1)], [], σ) else runF C d m_PL_count (49, [l0, some (.int x1)], [], σ) := by
  refine (r_iloadn 1 (show decode (zb m_PL_count) 0 = .ok (.iload_n 1, 1) from by decide +kernel) rfl).trans ?_
  by_cases q0 : x1 = 0
  · rw [if_pos q0]
    exact r_table 28 (show decode (zb m_PL_count) 1 = .ok (.tableswitch (48) (0) (2) #[(27), (35), (40)], 27) from by decide +kernel) (tb_in q0 rfl rfl rfl)
  rw [if_neg q0]
  by_cases q1 : x1 = 1
  · rw [if_pos q1]
    exact r_table 36 (show decode (zb m_PL_count) 1 = .ok (.tableswitch (48) (0) (2) #[(27), (35), (40)], 27) from by decide +kernel) (tb_in q1 rfl rfl rfl)
  rw [if_neg q1]
  by_cases q2 : x1 = 2
  · rw [if_pos q2]
    exact r_table 41 (show decode (zb m_PL_count) 1 = .ok (.tableswitch (48) (0) (2) #[(27), (35), (40)], 27) from by decide +kernel) (tb_in q2 rfl rfl rfl)
  rw [if_neg q2]
  have e0 : (Int32.toInt x1) ≠ 0 := ne_toInt q0
  have e1 : (Int32.toInt x1) ≠ 1 := ne_toInt q1
  have e2 : (Int32.toInt x1) ≠ 2 := ne_toInt q2
  exact r_table 49 (show decode (zb m_PL_count) 1 = .ok (.tableswitch (48) (0) (2) #[(27), (35), (40)], 27) from by decide +kernel) (tb_out (by omega) rfl)
theorem b_PL_count_28 {C : CF} {d : Nat} {σ : HP} {a0 : Nat} {l1 : Option Value} (h1 : a0 % 64 = 11) (h2 : (gR σ a0 4).isSome = true) (h3 : (dr (gR σ a0 4)) % 64 = 6) : runF C d m_PL_count (28, [some (.ref a0), l1], [], σ) = some (.inl (some (.int (gI σ (dr (gR σ a0 4)) 3))), σ) := by
  refine (r_aloadn 0 (show decode (zb m_PL_count) 28 = .ok (.aload_n 0, 1) from by decide +kernel) rfl).trans ?_
  refine (r_getR (show decode (zb m_PL_count) 29 = .ok (.getfield 36, 3) from by decide +kernel) rfl rfl h1 h2).trans ?_
  refine (r_getI (show decode (zb m_PL_count) 32 = .ok (.getfield 383, 3) from by decide +kernel) rfl rfl h3).trans ?_
  exact r_iret (show decode (zb m_PL_count) 35 = .ok (.ireturn, 1) from by decide +kernel) rfl rfl
theorem b_PL_count_36 {C : CF} {d : Nat} {σ : HP} {a0 : Nat} {l1 : Option Value} (h1 : a0 % 64 = 11) : runF C d m_PL_count (36, [some (.ref a0), l1], [], σ) = some (.inl (some (.int (gI σ a0 10))), σ) := by
  refine (r_aloadn 0 (show decode (zb m_PL_count) 36 = .ok (.aload_n 0, 1) from by decide +kernel) rfl).trans ?_
  refine (r_getI (show decode (zb m_PL_count) 37 = .ok (.getfield 71, 3) from by decide +kernel) rfl rfl h1).trans ?_
  exact r_iret (show decode (zb m_PL_count) 40 = .ok (.ireturn, 1) from by decide +kernel) rfl rfl
theorem b_PL_count_41 {C : CF} {d : Nat} {σ : HP} {a0 : Nat} {l1 : Option Value} (h1 : a0 % 64 = 11) (h2 : (gR σ a0 4).isSome = true) (h3 : (dr (gR σ a0 4)) % 64 = 6) : runF C d m_PL_count (41, [some (.ref a0), l1], [], σ) = some (.inl (some (.int (gI σ (dr (gR σ a0 4)) 1))), σ) := by
  refine (r_aloadn 0 (show decode (zb m_PL_count) 41 = .ok (.aload_n 0, 1) from by decide +kernel) rfl).trans ?_
  refine (r_getR (show decode (zb m_PL_count) 42 = .ok (.getfield 36, 3) from by decide +kernel) rfl rfl h1 h2).trans ?_
  refine (r_getI (show decode (zb m_PL_count) 45 = .ok (.getfield 386, 3) from by decide +kernel) rfl rfl h3).trans ?_
  exact r_iret (show decode (zb m_PL_count) 48 = .ok (.ireturn, 1) from by decide +kernel) rfl rfl
theorem b_PL_count_49 {C : CF} {d : Nat} {σ : HP} {l0 : Option Value} {l1 : Option Value}  : runF C d m_PL_count (49, [l0, l1], [], σ) = some (.inl (some (.int (-1 : Int32))), σ) := by
  refine (r_iconst (v := (-1 : Int32)) (show decode (zb m_PL_count) 49 = .ok (.iconst (-1), 1) from by decide +kernel) (by decide)).trans ?_
  exact r_iret (show decode (zb m_PL_count) 50 = .ok (.ireturn, 1) from by decide +kernel) rfl rfl
theorem e_PL_house {d : Nat} {σ : HP} {a0 : Nat} {x1 : Int32} : callF (d + 1) m_PL_house [.ref a0, .int x1] σ = runF (callF d) d m_PL_house (0, [some (.ref a0), some (.int x1), none], [], σ) := callF_in rfl rfl
theorem b_PL_house_0 {C : CF} {d : Nat} {σ : HP} {a0 : Nat} {x1 : Int32} {l2 : Option Value} (h1 : a0 % 64 = 11) : runF C d m_PL_house (0, [some (.ref a0), some (.int x1), l2], [], σ) = bk C d m_PL_house 5 [some (.ref a0), some (.int x1), l2] [] (C m_PL_openText [.ref a0, .int x1, .int ((600 : Int32))] σ) := by
  refine (r_aloadn 0 (show decode (zb m_PL_house) 0 = .ok (.aload_n 0, 1) from by decide +kernel) rfl).trans ?_
  refine (r_iloadn 1 (show decode (zb m_PL_house) 1 = .ok (.iload_n 1, 1) from by decide +kernel) rfl).trans ?_
  refine (r_sipush (v := (600 : Int32)) (show decode (zb m_PL_house) 2 = .ok (.sipush (600), 3) from by decide +kernel) (by decide)).trans ?_
  exact r_virt (args := [.int x1, .int ((600 : Int32))]) (rest := []) (show decode (zb m_PL_house) 5 = .ok (.invokevirtual 91, 3) from by decide +kernel) rfl rfl rfl h1
theorem b_PL_house_8 {C : CF} {d : Nat} {σ : HP} {l0 : Option Value} {l1 : Option Value} {l2 : Option Value}  : runF C d m_PL_house (8, [l0, l1, l2], [], σ) = bkN C d m_PL_house 12 [l0, l1, l2] [.ref (2 + 64 * hN σ)] (C m_House_init [.ref (2 + 64 * hN σ)] (hA σ 2 9)) := by
  refine (r_new (ci := 2) (show decode (zb m_PL_house) 8 = .ok (.new 95, 3) from by decide +kernel) rfl).trans ?_
  refine (r_dupR (show decode (zb m_PL_house) 11 = .ok (.dup, 1) from by decide +kernel)).trans ?_
  exact r_spec (args := []) (rest := [.ref (2 + 64 * hN σ)]) (show decode (zb m_PL_house) 12 = .ok (.invokespecial 97, 3) from by decide +kernel) rfl (by decide) rfl rfl (show (2 + 64 * hN σ) % 64 = 2 from by omega)
theorem b_PL_house_15 {C : CF} {d : Nat} {σ : HP} {r0 : Nat} {a0 : Nat} {l1 : Option Value} {l2 : Option Value} (h1 : a0 % 64 = 11) (h2 : (gR σ a0 0).isSome = true) (h3 : r0 % 64 = 2) : runF C d m_PL_house (15, [some (.ref a0), l1, l2], [.ref r0], σ) = bk C d m_PL_house 21 [some (.ref a0), l1, some (.ref r0)] [] (C m_House_readClauses [.ref r0, .ref (dr (gR σ a0 0))] σ) := by
  refine (r_astoren 2 (show decode (zb m_PL_house) 15 = .ok (.astore_n 2, 1) from by decide +kernel) rfl).trans ?_
  refine (r_aloadn 2 (show decode (zb m_PL_house) 16 = .ok (.aload_n 2, 1) from by decide +kernel) rfl).trans ?_
  refine (r_aloadn 0 (show decode (zb m_PL_house) 17 = .ok (.aload_n 0, 1) from by decide +kernel) rfl).trans ?_
  refine (r_getR (show decode (zb m_PL_house) 18 = .ok (.getfield 10, 3) from by decide +kernel) rfl rfl h1 h2).trans ?_
  exact r_virt (args := [.ref (dr (gR σ a0 0))]) (rest := []) (show decode (zb m_PL_house) 21 = .ok (.invokevirtual 98, 3) from by decide +kernel) rfl rfl rfl h3
theorem b_PL_house_24 {C : CF} {d : Nat} {σ : HP} {a0 : Nat} {l1 : Option Value} {l2 : Option Value} (h1 : a0 % 64 = 11) (h2 : (gR σ a0 0).isSome = true) (h3 : (dr (gR σ a0 0)) % 64 = 7) : runF C d m_PL_house (24, [some (.ref a0), l1, l2], [], σ) = bk C d m_PL_house 28 [some (.ref a0), l1, l2] [] (C m_Reader_failed [.ref (dr (gR σ a0 0))] σ) := by
  refine (r_aloadn 0 (show decode (zb m_PL_house) 24 = .ok (.aload_n 0, 1) from by decide +kernel) rfl).trans ?_
  refine (r_getR (show decode (zb m_PL_house) 25 = .ok (.getfield 10, 3) from by decide +kernel) rfl rfl h1 h2).trans ?_
  exact r_virt (args := []) (rest := []) (show decode (zb m_PL_house) 28 = .ok (.invokevirtual 102, 3) from by decide +kernel) rfl rfl rfl h3
theorem b_PL_house_31 {C : CF} {d : Nat} {σ : HP} {s0 : Int32} {l0 : Option Value} {l1 : Option Value} {l2 : Option Value}  : runF C d m_PL_house (31, [l0, l1, l2], [.int s0], σ) = if ¬ s0 = 0 then runF C d m_PL_house (61, [l0, l1, l2], [], σ) else runF C d m_PL_house (34, [l0, l1, l2], [], σ) := by
  exact r_if_ne 61 (show decode (zb m_PL_house) 31 = .ok (.ifCond .ne (30), 3) from by decide +kernel) rfl
theorem b_PL_house_34 {C : CF} {d : Nat} {σ : HP} {a0 : Nat} {a2 : Nat} {l1 : Option Value} (h1 : a0 % 64 = 11) (h2 : (gR σ a0 1).isSome = true) (h3 : (dr (gR σ a0 1)) % 64 = 5) : runF C d m_PL_house (34, [some (.ref a0), l1, some (.ref a2)], [], σ) = bk C d m_PL_house 39 [some (.ref a0), l1, some (.ref a2)] [] (C m_Lift_moveInto [.ref (dr (gR σ a0 1)), .ref a2] σ) := by
  refine (r_aloadn 0 (show decode (zb m_PL_house) 34 = .ok (.aload_n 0, 1) from by decide +kernel) rfl).trans ?_
  refine (r_getR (show decode (zb m_PL_house) 35 = .ok (.getfield 19, 3) from by decide +kernel) rfl rfl h1 h2).trans ?_
  refine (r_aloadn 2 (show decode (zb m_PL_house) 38 = .ok (.aload_n 2, 1) from by decide +kernel) rfl).trans ?_
  exact r_virt (args := [.ref a2]) (rest := []) (show decode (zb m_PL_house) 39 = .ok (.invokevirtual 106, 3) from by decide +kernel) rfl rfl rfl h3
theorem b_PL_house_42 {C : CF} {d : Nat} {σ : HP} {a0 : Nat} {l1 : Option Value} {l2 : Option Value} (h1 : a0 % 64 = 11) (h2 : (gR σ a0 8).isSome = true) (h3 : (dr (gR σ a0 8)) % 64 = 0) : runF C d m_PL_house (42, [some (.ref a0), l1, l2], [], σ) = bk C d m_PL_house 46 [some (.ref a0), l1, l2] [] (C m_Book_wipe [.ref (dr (gR σ a0 8))] σ) := by
  refine (r_aloadn 0 (show decode (zb m_PL_house) 42 = .ok (.aload_n 0, 1) from by decide +kernel) rfl).trans ?_
  refine (r_getR (show decode (zb m_PL_house) 43 = .ok (.getfield 64, 3) from by decide +kernel) rfl rfl h1 h2).trans ?_
  exact r_virt (args := []) (rest := []) (show decode (zb m_PL_house) 46 = .ok (.invokevirtual 110, 3) from by decide +kernel) rfl rfl rfl h3
theorem b_PL_house_49 {C : CF} {d : Nat} {σ : HP} {a0 : Nat} {l1 : Option Value} {l2 : Option Value} (h1 : a0 % 64 = 11) (h2 : (gR σ a0 4).isSome = true) (h3 : (dr (gR σ a0 4)) % 64 = 6) : runF C d m_PL_house (49, [some (.ref a0), l1, l2], [], σ) = bk C d m_PL_house 53 [some (.ref a0), l1, l2] [] (C m_Past_forgetAll [.ref (dr (gR σ a0 4))] σ) := by
  refine (r_aloadn 0 (show decode (zb m_PL_house) 49 = .ok (.aload_n 0, 1) from by decide +kernel) rfl).trans ?_
  refine (r_getR (show decode (zb m_PL_house) 50 = .ok (.getfield 36, 3) from by decide +kernel) rfl rfl h1 h2).trans ?_
  exact r_virt (args := []) (rest := []) (show decode (zb m_PL_house) 53 = .ok (.invokevirtual 113, 3) from by decide +kernel) rfl rfl rfl h3
theorem b_PL_house_56 {C : CF} {d : Nat} {σ : HP} {a0 : Nat} {l1 : Option Value} {l2 : Option Value} (h1 : a0 % 64 = 11) : runF C d m_PL_house (56, [some (.ref a0), l1, l2], [], σ) = runF C d m_PL_house (61, [some (.ref a0), l1, l2], [], wI σ a0 12 (0 : Int32)) := by
  refine (r_aloadn 0 (show decode (zb m_PL_house) 56 = .ok (.aload_n 0, 1) from by decide +kernel) rfl).trans ?_
  refine (r_iconst (v := (0 : Int32)) (show decode (zb m_PL_house) 57 = .ok (.iconst (0), 1) from by decide +kernel) (by decide)).trans ?_
  exact r_putI (show decode (zb m_PL_house) 58 = .ok (.putfield 78, 3) from by decide +kernel) rfl rfl rfl h1
theorem b_PL_house_61 {C : CF} {d : Nat} {σ : HP} {a0 : Nat} {a2 : Nat} {l1 : Option Value} (h1 : a2 % 64 = 2) (h2 : a0 % 64 = 11) : runF C d m_PL_house (61, [some (.ref a0), l1, some (.ref a2)], [], σ) = bk C d m_PL_house 66 [some (.ref a0), l1, some (.ref a2)] [] (C m_PL_closeText [.ref a0, .int (gI σ a2 1)] σ) := by
  refine (r_aloadn 0 (show decode (zb m_PL_house) 61 = .ok (.aload_n 0, 1) from by decide +kernel) rfl).trans ?_
  refine (r_aloadn 2 (show decode (zb m_PL_house) 62 = .ok (.aload_n 2, 1) from by decide +kernel) rfl).trans ?_
  refine (r_getI (show decode (zb m_PL_house) 63 = .ok (.getfield 116, 3) from by decide +kernel) rfl rfl h1).trans ?_
  exact r_virt (args := [.int (gI σ a2 1)]) (rest := []) (show decode (zb m_PL_house) 66 = .ok (.invokevirtual 119, 3) from by decide +kernel) rfl rfl rfl h2
theorem b_PL_house_69 {C : CF} {d : Nat} {σ : HP} {s0 : Int32} {l0 : Option Value} {l1 : Option Value} {l2 : Option Value}  : runF C d m_PL_house (69, [l0, l1, l2], [.int s0], σ) = some (.inl (some (.int s0)), σ) := by
  exact r_iret (show decode (zb m_PL_house) 69 = .ok (.ireturn, 1) from by decide +kernel) rfl rfl
theorem e_PL_openText {d : Nat} {σ : HP} {a0 : Nat} {x1 : Int32} {x2 : Int32} : callF (d + 1) m_PL_openText [.ref a0, .int x1, .int x2] σ = runF (callF d) d m_PL_openText (0, [some (.ref a0), some (.int x1), some (.int x2)], [], σ) := callF_in rfl rfl
theorem b_PL_openText_0 {C : CF} {d : Nat} {σ : HP} {a0 : Nat} {x1 : Int32} {x2 : Int32} (h1 : a0 % 64 = 11) : runF C d m_PL_openText (0, [some (.ref a0), some (.int x1), some (.int x2)], [], σ) = bkN C d m_PL_openText 11 [some (.ref a0), some (.int x1), some (.int x2)] [.ref a0] (C m_PL_isWithin [.int x1, .int ((0 : Int32)), .int (p_min x2 (gI σ a0 10))] σ) := by
  refine (r_aloadn 0 (show decode (zb m_PL_openText) 0 = .ok (.aload_n 0, 1) from by decide +kernel) rfl).trans ?_
  refine (r_iloadn 1 (show decode (zb m_PL_openText) 1 = .ok (.iload_n 1, 1) from by decide +kernel) rfl).trans ?_
  refine (r_iconst (v := (0 : Int32)) (show decode (zb m_PL_openText) 2 = .ok (.iconst (0), 1) from by decide +kernel) (by decide)).trans ?_
  refine (r_iloadn 2 (show decode (zb m_PL_openText) 3 = .ok (.iload_n 2, 1) from by decide +kernel) rfl).trans ?_
  refine (r_aloadn 0 (show decode (zb m_PL_openText) 4 = .ok (.aload_n 0, 1) from by decide +kernel) rfl).trans ?_
  refine (r_getI (show decode (zb m_PL_openText) 5 = .ok (.getfield 71, 3) from by decide +kernel) rfl rfl h1).trans ?_
  refine (r_min (show decode (zb m_PL_openText) 8 = .ok (.invokestatic 350, 3) from by decide +kernel) rfl rfl).trans ?_
  exact r_stat (args := [.int x1, .int ((0 : Int32)), .int (p_min x2 (gI σ a0 10))]) (rest := [.ref a0]) (show decode (zb m_PL_openText) 11 = .ok (.invokestatic 177, 3) from by decide +kernel) rfl (by decide) rfl rfl
theorem b_PL_openText_14 {C : CF} {d : Nat} {σ : HP} {s0 : Int32} {r1 : Nat} {l0 : Option Value} {l1 : Option Value} {l2 : Option Value} (h1 : r1 % 64 = 11) : runF C d m_PL_openText (14, [l0, l1, l2], [.int s0, .ref r1], σ) = bk C d m_PL_openText 14 [l0, l1, l2] [] (C m_PL_needArgument [.ref r1, .int s0] σ) := by
  exact r_virt (args := [.int s0]) (rest := []) (show decode (zb m_PL_openText) 14 = .ok (.invokevirtual 181, 3) from by decide +kernel) rfl rfl rfl h1
theorem b_PL_openText_17 {C : CF} {d : Nat} {σ : HP} {a0 : Nat} {x1 : Int32} {l2 : Option Value} (h1 : a0 % 64 = 11) (h2 : (gR (wI σ a0 10 (0 : Int32)) a0 0).isSome = true) (h3 : (dr (gR (wI σ a0 10 (0 : Int32)) a0 0)) % 64 = 7) : runF C d m_PL_openText (17, [some (.ref a0), some (.int x1), l2], [], σ) = bk C d m_PL_openText 27 [some (.ref a0), some (.int x1), l2] [] (C m_Reader_open [.ref (dr (gR (wI σ a0 10 (0 : Int32)) a0 0)), .int x1] (wI σ a0 10 (0 : Int32))) := by
  refine (r_aloadn 0 (show decode (zb m_PL_openText) 17 = .ok (.aload_n 0, 1) from by decide +kernel) rfl).trans ?_
  refine (r_iconst (v := (0 : Int32)) (show decode (zb m_PL_openText) 18 = .ok (.iconst (0), 1) from by decide +kernel) (by decide)).trans ?_
  refine (r_putI (show decode (zb m_PL_openText) 19 = .ok (.putfield 71, 3) from by decide +kernel) rfl rfl rfl h1).trans ?_
  refine (r_aloadn 0 (show decode (zb m_PL_openText) 22 = .ok (.aload_n 0, 1) from by decide +kernel) rfl).trans ?_
  refine (r_getR (show decode (zb m_PL_openText) 23 = .ok (.getfield 10, 3) from by decide +kernel) rfl rfl h1 h2).trans ?_
  refine (r_iloadn 1 (show decode (zb m_PL_openText) 26 = .ok (.iload_n 1, 1) from by decide +kernel) rfl).trans ?_
  exact r_virt (args := [.int x1]) (rest := []) (show decode (zb m_PL_openText) 27 = .ok (.invokevirtual 393, 3) from by decide +kernel) rfl rfl rfl h3
theorem b_PL_openText_30 {C : CF} {d : Nat} {σ : HP} {l0 : Option Value} {l1 : Option Value} {l2 : Option Value}  : runF C d m_PL_openText (30, [l0, l1, l2], [], σ) = some (.inl none, σ) := by
  exact r_vret (show decode (zb m_PL_openText) 30 = .ok (.return_, 1) from by decide +kernel) rfl
theorem e_PL_isWithin {d : Nat} {σ : HP} {x0 : Int32} {x1 : Int32} {x2 : Int32} : callF (d + 1) m_PL_isWithin [.int x0, .int x1, .int x2] σ = runF (callF d) d m_PL_isWithin (0, [some (.int x0), some (.int x1), some (.int x2)], [], σ) := callF_in rfl rfl
theorem b_PL_isWithin_0 {C : CF} {d : Nat} {σ : HP} {x0 : Int32} {x1 : Int32} {l2 : Option Value}  : runF C d m_PL_isWithin (0, [some (.int x0), some (.int x1), l2], [], σ) = if x0 < x1 then runF C d m_PL_isWithin (14, [some (.int x0), some (.int x1), l2], [], σ) else runF C d m_PL_isWithin (5, [some (.int x0), some (.int x1), l2], [], σ) := by
  refine (r_iloadn 0 (show decode (zb m_PL_isWithin) 0 = .ok (.iload_n 0, 1) from by decide +kernel) rfl).trans ?_
  refine (r_iloadn 1 (show decode (zb m_PL_isWithin) 1 = .ok (.iload_n 1, 1) from by decide +kernel) rfl).trans ?_
  exact r_icmp_lt 14 (show decode (zb m_PL_isWithin) 2 = .ok (.if_icmp .lt (12), 3) from by decide +kernel) rfl
theorem b_PL_isWithin_5 {C : CF} {d : Nat} {σ : HP} {x0 : Int32} {x2 : Int32} {l1 : Option Value}  : runF C d m_PL_isWithin (5, [some (.int x0), l1, some (.int x2)], [], σ) = if x2 < x0 then runF C d m_PL_isWithin (14, [some (.int x0), l1, some (.int x2)], [], σ) else runF C d m_PL_isWithin (10, [some (.int x0), l1, some (.int x2)], [], σ) := by
  refine (r_iloadn 0 (show decode (zb m_PL_isWithin) 5 = .ok (.iload_n 0, 1) from by decide +kernel) rfl).trans ?_
  refine (r_iloadn 2 (show decode (zb m_PL_isWithin) 6 = .ok (.iload_n 2, 1) from by decide +kernel) rfl).trans ?_
  exact r_icmp_gt 14 (show decode (zb m_PL_isWithin) 7 = .ok (.if_icmp .gt (7), 3) from by decide +kernel) rfl
theorem b_PL_isWithin_10 {C : CF} {d : Nat} {σ : HP} {l0 : Option Value} {l1 : Option Value} {l2 : Option Value}  : runF C d m_PL_isWithin (10, [l0, l1, l2], [], σ) = runF C d m_PL_isWithin (15, [l0, l1, l2], [.int ((1 : Int32))], σ) := by
  refine (r_iconst (v := (1 : Int32)) (show decode (zb m_PL_isWithin) 10 = .ok (.iconst (1), 1) from by decide +kernel) (by decide)).trans ?_
  exact r_goto 15 (show decode (zb m_PL_isWithin) 11 = .ok (.goto (4), 3) from by decide +kernel) rfl
theorem b_PL_isWithin_14 {C : CF} {d : Nat} {σ : HP} {l0 : Option Value} {l1 : Option Value} {l2 : Option Value}  : runF C d m_PL_isWithin (14, [l0, l1, l2], [], σ) = runF C d m_PL_isWithin (15, [l0, l1, l2], [.int ((0 : Int32))], σ) := by
  exact r_iconst (v := (0 : Int32)) (show decode (zb m_PL_isWithin) 14 = .ok (.iconst (0), 1) from by decide +kernel) (by decide)
theorem b_PL_isWithin_15 {C : CF} {d : Nat} {σ : HP} {s0 : Int32} {l0 : Option Value} {l1 : Option Value} {l2 : Option Value} (h1 : s0 = 0 ∨ s0 = 1) : runF C d m_PL_isWithin (15, [l0, l1, l2], [.int s0], σ) = some (.inl (some (.int s0)), σ) := by
  exact r_bret (show decode (zb m_PL_isWithin) 15 = .ok (.ireturn, 1) from by decide +kernel) rfl h1
theorem e_PL_needArgument {d : Nat} {σ : HP} {a0 : Nat} {x1 : Int32} : callF (d + 1) m_PL_needArgument [.ref a0, .int x1] σ = runF (callF d) d m_PL_needArgument (0, [some (.ref a0), some (.int x1)], [], σ) := callF_in rfl rfl
theorem b_PL_needArgument_0 {C : CF} {d : Nat} {σ : HP} {x1 : Int32} {l0 : Option Value}  : runF C d m_PL_needArgument (0, [l0, some (.int x1)], [], σ) = if ¬ x1 = 0 then runF C d m_PL_needArgument (25, [l0, some (.int x1)], [], σ) else runF C d m_PL_needArgument (4, [l0, some (.int x1)], [], σ) := by
  refine (r_iloadn 1 (show decode (zb m_PL_needArgument) 0 = .ok (.iload_n 1, 1) from by decide +kernel) rfl).trans ?_
  exact r_if_ne 25 (show decode (zb m_PL_needArgument) 1 = .ok (.ifCond .ne (24), 3) from by decide +kernel) rfl
theorem b_PL_needArgument_4 {C : CF} {d : Nat} {σ : HP} {a0 : Nat} {l1 : Option Value} (h1 : a0 % 64 = 11) (h2 : 20 ≤ d) : runF C d m_PL_needArgument (4, [some (.ref a0), l1], [], σ) = some (.inr 1, hA (wI σ a0 14 ((gI σ a0 14) + (1 : Int32))) 63 6) := by
  refine (r_aloadn 0 (show decode (zb m_PL_needArgument) 4 = .ok (.aload_n 0, 1) from by decide +kernel) rfl).trans ?_
  refine (r_dupR (show decode (zb m_PL_needArgument) 5 = .ok (.dup, 1) from by decide +kernel)).trans ?_
  refine (r_getI (show decode (zb m_PL_needArgument) 6 = .ok (.getfield 84, 3) from by decide +kernel) rfl rfl h1).trans ?_
  refine (r_iconst (v := (1 : Int32)) (show decode (zb m_PL_needArgument) 9 = .ok (.iconst (1), 1) from by decide +kernel) (by decide)).trans ?_
  refine (r_iadd (show decode (zb m_PL_needArgument) 10 = .ok (.iadd, 1) from by decide +kernel)).trans ?_
  refine (r_putI (show decode (zb m_PL_needArgument) 11 = .ok (.putfield 84, 3) from by decide +kernel) rfl rfl rfl h1).trans ?_
  exact r_thr (x := 1) (show decode (zb m_PL_needArgument) 14 = .ok (.new 410, 3) from by decide +kernel) rfl rfl rfl (show decode (zb m_PL_needArgument) 17 = .ok (.dup, 1) from by decide +kernel) (show decode (zb m_PL_needArgument) 18 = .ok (.ldc_w 412, 3) from by decide +kernel) (show decode (zb m_PL_needArgument) 21 = .ok (.invokespecial 414, 3) from by decide +kernel) (show decode (zb m_PL_needArgument) 24 = .ok (.athrow, 1) from by decide +kernel) h2
theorem b_PL_needArgument_25 {C : CF} {d : Nat} {σ : HP} {l0 : Option Value} {l1 : Option Value}  : runF C d m_PL_needArgument (25, [l0, l1], [], σ) = some (.inl none, σ) := by
  exact r_vret (show decode (zb m_PL_needArgument) 25 = .ok (.return_, 1) from by decide +kernel) rfl
theorem e_PL_closeText {d : Nat} {σ : HP} {a0 : Nat} {x1 : Int32} : callF (d + 1) m_PL_closeText [.ref a0, .int x1] σ = runF (callF d) d m_PL_closeText (0, [some (.ref a0), some (.int x1)], [], σ) := callF_in rfl rfl
theorem b_PL_closeText_0 {C : CF} {d : Nat} {σ : HP} {a0 : Nat} {l1 : Option Value} (h1 : a0 % 64 = 11) (h2 : (gR σ a0 0).isSome = true) (h3 : (dr (gR σ a0 0)) % 64 = 7) (h4 : (gR (wI σ a0 11 (gI σ (dr (gR σ a0 0)) 4)) a0 0).isSome = true) (h5 : (dr (gR (wI σ a0 11 (gI σ (dr (gR σ a0 0)) 4)) a0 0)) % 64 = 7) : runF C d m_PL_closeText (0, [some (.ref a0), l1], [], σ) = bk C d m_PL_closeText 15 [some (.ref a0), l1] [] (C m_Reader_failed [.ref (dr (gR (wI σ a0 11 (gI σ (dr (gR σ a0 0)) 4)) a0 0))] (wI σ a0 11 (gI σ (dr (gR σ a0 0)) 4))) := by
  refine (r_aloadn 0 (show decode (zb m_PL_closeText) 0 = .ok (.aload_n 0, 1) from by decide +kernel) rfl).trans ?_
  refine (r_aloadn 0 (show decode (zb m_PL_closeText) 1 = .ok (.aload_n 0, 1) from by decide +kernel) rfl).trans ?_
  refine (r_getR (show decode (zb m_PL_closeText) 2 = .ok (.getfield 10, 3) from by decide +kernel) rfl rfl h1 h2).trans ?_
  refine (r_getI (show decode (zb m_PL_closeText) 5 = .ok (.getfield 396, 3) from by decide +kernel) rfl rfl h3).trans ?_
  refine (r_putI (show decode (zb m_PL_closeText) 8 = .ok (.putfield 75, 3) from by decide +kernel) rfl rfl rfl h1).trans ?_
  refine (r_aloadn 0 (show decode (zb m_PL_closeText) 11 = .ok (.aload_n 0, 1) from by decide +kernel) rfl).trans ?_
  refine (r_getR (show decode (zb m_PL_closeText) 12 = .ok (.getfield 10, 3) from by decide +kernel) rfl rfl h1 h4).trans ?_
  exact r_virt (args := []) (rest := []) (show decode (zb m_PL_closeText) 15 = .ok (.invokevirtual 102, 3) from by decide +kernel) rfl rfl rfl h5
theorem b_PL_closeText_18 {C : CF} {d : Nat} {σ : HP} {s0 : Int32} {l0 : Option Value} {l1 : Option Value}  : runF C d m_PL_closeText (18, [l0, l1], [.int s0], σ) = if s0 = 0 then runF C d m_PL_closeText (34, [l0, l1], [], σ) else runF C d m_PL_closeText (21, [l0, l1], [], σ) := by
  exact r_if_eq 34 (show decode (zb m_PL_closeText) 18 = .ok (.ifCond .eq (16), 3) from by decide +kernel) rfl
theorem b_PL_closeText_21 {C : CF} {d : Nat} {σ : HP} {a0 : Nat} {l1 : Option Value} (h1 : a0 % 64 = 11) (h2 : (gR σ a0 0).isSome = true) (h3 : (dr (gR σ a0 0)) % 64 = 7) : runF C d m_PL_closeText (21, [some (.ref a0), l1], [], σ) = runF C d m_PL_closeText (35, [some (.ref a0), l1], [.int ((gI σ (dr (gR σ a0 0)) 3) - (10 : Int32))], σ) := by
  refine (r_aloadn 0 (show decode (zb m_PL_closeText) 21 = .ok (.aload_n 0, 1) from by decide +kernel) rfl).trans ?_
  refine (r_getR (show decode (zb m_PL_closeText) 22 = .ok (.getfield 10, 3) from by decide +kernel) rfl rfl h1 h2).trans ?_
  refine (r_getI (show decode (zb m_PL_closeText) 25 = .ok (.getfield 397, 3) from by decide +kernel) rfl rfl h3).trans ?_
  refine (r_bipush (v := (10 : Int32)) (show decode (zb m_PL_closeText) 28 = .ok (.bipush (10), 2) from by decide +kernel) (by decide)).trans ?_
  refine (r_isub (show decode (zb m_PL_closeText) 30 = .ok (.isub, 1) from by decide +kernel)).trans ?_
  exact r_goto 35 (show decode (zb m_PL_closeText) 31 = .ok (.goto (4), 3) from by decide +kernel) rfl
theorem b_PL_closeText_34 {C : CF} {d : Nat} {σ : HP} {x1 : Int32} {l0 : Option Value}  : runF C d m_PL_closeText (34, [l0, some (.int x1)], [], σ) = runF C d m_PL_closeText (35, [l0, some (.int x1)], [.int x1], σ) := by
  exact r_iloadn 1 (show decode (zb m_PL_closeText) 34 = .ok (.iload_n 1, 1) from by decide +kernel) rfl
theorem b_PL_closeText_35 {C : CF} {d : Nat} {σ : HP} {s0 : Int32} {l0 : Option Value} {l1 : Option Value}  : runF C d m_PL_closeText (35, [l0, l1], [.int s0], σ) = some (.inl (some (.int s0)), σ) := by
  exact r_iret (show decode (zb m_PL_closeText) 35 = .ok (.ireturn, 1) from by decide +kernel) rfl rfl
theorem e_PL_law {d : Nat} {σ : HP} {a0 : Nat} {x1 : Int32} : callF (d + 1) m_PL_law [.ref a0, .int x1] σ = runF (callF d) d m_PL_law (0, [some (.ref a0), some (.int x1), none], [], σ) := callF_in rfl rfl
theorem b_PL_law_0 {C : CF} {d : Nat} {σ : HP} {a0 : Nat} {x1 : Int32} {l2 : Option Value} (h1 : a0 % 64 = 11) : runF C d m_PL_law (0, [some (.ref a0), some (.int x1), l2], [], σ) = bk C d m_PL_law 5 [some (.ref a0), some (.int x1), l2] [] (C m_PL_openText [.ref a0, .int x1, .int ((150 : Int32))] σ) := by
  refine (r_aloadn 0 (show decode (zb m_PL_law) 0 = .ok (.aload_n 0, 1) from by decide +kernel) rfl).trans ?_
  refine (r_iloadn 1 (show decode (zb m_PL_law) 1 = .ok (.iload_n 1, 1) from by decide +kernel) rfl).trans ?_
  refine (r_sipush (v := (150 : Int32)) (show decode (zb m_PL_law) 2 = .ok (.sipush (150), 3) from by decide +kernel) (by decide)).trans ?_
  exact r_virt (args := [.int x1, .int ((150 : Int32))]) (rest := []) (show decode (zb m_PL_law) 5 = .ok (.invokevirtual 91, 3) from by decide +kernel) rfl rfl rfl h1
theorem b_PL_law_8 {C : CF} {d : Nat} {σ : HP} {a0 : Nat} {l1 : Option Value} {l2 : Option Value} (h1 : a0 % 64 = 11) (h2 : (gR σ a0 7).isSome = true) (h3 : (dr (gR σ a0 7)) % 64 = 4) : runF C d m_PL_law (8, [some (.ref a0), l1, l2], [], σ) = bk C d m_PL_law 12 [some (.ref a0), l1, l2] [] (C m_Law_wipe [.ref (dr (gR σ a0 7))] σ) := by
  refine (r_aloadn 0 (show decode (zb m_PL_law) 8 = .ok (.aload_n 0, 1) from by decide +kernel) rfl).trans ?_
  refine (r_getR (show decode (zb m_PL_law) 9 = .ok (.getfield 57, 3) from by decide +kernel) rfl rfl h1 h2).trans ?_
  exact r_virt (args := []) (rest := []) (show decode (zb m_PL_law) 12 = .ok (.invokevirtual 123, 3) from by decide +kernel) rfl rfl rfl h3
theorem b_PL_law_15 {C : CF} {d : Nat} {σ : HP} {a0 : Nat} {l1 : Option Value} {l2 : Option Value} (h1 : a0 % 64 = 11) (h2 : (gR σ a0 7).isSome = true) (h3 : (gR σ a0 0).isSome = true) (h4 : (dr (gR σ a0 7)) % 64 = 4) : runF C d m_PL_law (15, [some (.ref a0), l1, l2], [], σ) = bk C d m_PL_law 24 [some (.ref a0), l1, l2] [] (C m_Law_readSum [.ref (dr (gR σ a0 7)), .ref (dr (gR σ a0 0)), .int ((0 : Int32))] σ) := by
  refine (r_aloadn 0 (show decode (zb m_PL_law) 15 = .ok (.aload_n 0, 1) from by decide +kernel) rfl).trans ?_
  refine (r_getR (show decode (zb m_PL_law) 16 = .ok (.getfield 57, 3) from by decide +kernel) rfl rfl h1 h2).trans ?_
  refine (r_aloadn 0 (show decode (zb m_PL_law) 19 = .ok (.aload_n 0, 1) from by decide +kernel) rfl).trans ?_
  refine (r_getR (show decode (zb m_PL_law) 20 = .ok (.getfield 10, 3) from by decide +kernel) rfl rfl h1 h3).trans ?_
  refine (r_iconst (v := (0 : Int32)) (show decode (zb m_PL_law) 23 = .ok (.iconst (0), 1) from by decide +kernel) (by decide)).trans ?_
  exact r_virt (args := [.ref (dr (gR σ a0 0)), .int ((0 : Int32))]) (rest := []) (show decode (zb m_PL_law) 24 = .ok (.invokevirtual 124, 3) from by decide +kernel) rfl rfl rfl h4
theorem b_PL_law_27 {C : CF} {d : Nat} {σ : HP} {a0 : Nat} {l1 : Option Value} {l2 : Option Value} (h1 : a0 % 64 = 11) (h2 : (gR σ a0 0).isSome = true) (h3 : (dr (gR σ a0 0)) % 64 = 7) : runF C d m_PL_law (27, [some (.ref a0), l1, l2], [], σ) = bk C d m_PL_law 31 [some (.ref a0), l1, l2] [] (C m_Reader_needEnd [.ref (dr (gR σ a0 0))] σ) := by
  refine (r_aloadn 0 (show decode (zb m_PL_law) 27 = .ok (.aload_n 0, 1) from by decide +kernel) rfl).trans ?_
  refine (r_getR (show decode (zb m_PL_law) 28 = .ok (.getfield 10, 3) from by decide +kernel) rfl rfl h1 h2).trans ?_
  exact r_virt (args := []) (rest := []) (show decode (zb m_PL_law) 31 = .ok (.invokevirtual 128, 3) from by decide +kernel) rfl rfl rfl h3
theorem b_PL_law_34 {C : CF} {d : Nat} {σ : HP} {a0 : Nat} {l1 : Option Value} {l2 : Option Value} (h1 : a0 % 64 = 11) (h2 : (gR σ a0 0).isSome = true) (h3 : (dr (gR σ a0 0)) % 64 = 7) : runF C d m_PL_law (34, [some (.ref a0), l1, l2], [], σ) = bk C d m_PL_law 38 [some (.ref a0), l1, l2] [] (C m_Reader_failed [.ref (dr (gR σ a0 0))] σ) := by
  refine (r_aloadn 0 (show decode (zb m_PL_law) 34 = .ok (.aload_n 0, 1) from by decide +kernel) rfl).trans ?_
  refine (r_getR (show decode (zb m_PL_law) 35 = .ok (.getfield 10, 3) from by decide +kernel) rfl rfl h1 h2).trans ?_
  exact r_virt (args := []) (rest := []) (show decode (zb m_PL_law) 38 = .ok (.invokevirtual 102, 3) from by decide +kernel) rfl rfl rfl h3
theorem b_PL_law_41 {C : CF} {d : Nat} {σ : HP} {s0 : Int32} {l0 : Option Value} {l1 : Option Value} {l2 : Option Value}  : runF C d m_PL_law (41, [l0, l1, l2], [.int s0], σ) = if ¬ s0 = 0 then runF C d m_PL_law (68, [l0, l1, l2], [], σ) else runF C d m_PL_law (44, [l0, l1, l2], [], σ) := by
  exact r_if_ne 68 (show decode (zb m_PL_law) 41 = .ok (.ifCond .ne (27), 3) from by decide +kernel) rfl
theorem b_PL_law_44 {C : CF} {d : Nat} {σ : HP} {a0 : Nat} {l1 : Option Value} {l2 : Option Value} (h1 : a0 % 64 = 11) (h2 : (gR σ a0 1).isSome = true) (h3 : (dr (gR σ a0 1)) % 64 = 5) (h4 : (gR σ (dr (gR σ a0 1)) 1).isSome = true) (h5 : (gR σ a0 7).isSome = true) : runF C d m_PL_law (44, [some (.ref a0), l1, l2], [], σ) = runF C d m_PL_law (68, [some (.ref a0), l1, some (.ref (dr (gR σ (dr (gR σ a0 1)) 1)))], [], wR (wR σ (dr (gR σ a0 1)) 1 (some (dr (gR σ a0 7)))) a0 7 (some (dr (gR σ (dr (gR σ a0 1)) 1)))) := by
  refine (r_aloadn 0 (show decode (zb m_PL_law) 44 = .ok (.aload_n 0, 1) from by decide +kernel) rfl).trans ?_
  refine (r_getR (show decode (zb m_PL_law) 45 = .ok (.getfield 19, 3) from by decide +kernel) rfl rfl h1 h2).trans ?_
  refine (r_getR (show decode (zb m_PL_law) 48 = .ok (.getfield 131, 3) from by decide +kernel) rfl rfl h3 h4).trans ?_
  refine (r_astoren 2 (show decode (zb m_PL_law) 51 = .ok (.astore_n 2, 1) from by decide +kernel) rfl).trans ?_
  refine (r_aloadn 0 (show decode (zb m_PL_law) 52 = .ok (.aload_n 0, 1) from by decide +kernel) rfl).trans ?_
  refine (r_getR (show decode (zb m_PL_law) 53 = .ok (.getfield 19, 3) from by decide +kernel) rfl rfl h1 h2).trans ?_
  refine (r_aloadn 0 (show decode (zb m_PL_law) 56 = .ok (.aload_n 0, 1) from by decide +kernel) rfl).trans ?_
  refine (r_getR (show decode (zb m_PL_law) 57 = .ok (.getfield 57, 3) from by decide +kernel) rfl rfl h1 h5).trans ?_
  refine (r_putR (show decode (zb m_PL_law) 60 = .ok (.putfield 131, 3) from by decide +kernel) rfl rfl rfl h3).trans ?_
  refine (r_aloadn 0 (show decode (zb m_PL_law) 63 = .ok (.aload_n 0, 1) from by decide +kernel) rfl).trans ?_
  refine (r_aloadn 2 (show decode (zb m_PL_law) 64 = .ok (.aload_n 2, 1) from by decide +kernel) rfl).trans ?_
  exact r_putR (show decode (zb m_PL_law) 65 = .ok (.putfield 57, 3) from by decide +kernel) rfl rfl rfl h1
theorem b_PL_law_68 {C : CF} {d : Nat} {σ : HP} {a0 : Nat} {l1 : Option Value} {l2 : Option Value} (h1 : a0 % 64 = 11) : runF C d m_PL_law (68, [some (.ref a0), l1, l2], [], σ) = bk C d m_PL_law 70 [some (.ref a0), l1, l2] [] (C m_PL_closeText [.ref a0, .int ((1 : Int32))] σ) := by
  refine (r_aloadn 0 (show decode (zb m_PL_law) 68 = .ok (.aload_n 0, 1) from by decide +kernel) rfl).trans ?_
  refine (r_iconst (v := (1 : Int32)) (show decode (zb m_PL_law) 69 = .ok (.iconst (1), 1) from by decide +kernel) (by decide)).trans ?_
  exact r_virt (args := [.int ((1 : Int32))]) (rest := []) (show decode (zb m_PL_law) 70 = .ok (.invokevirtual 119, 3) from by decide +kernel) rfl rfl rfl h1
theorem b_PL_law_73 {C : CF} {d : Nat} {σ : HP} {s0 : Int32} {l0 : Option Value} {l1 : Option Value} {l2 : Option Value}  : runF C d m_PL_law (73, [l0, l1, l2], [.int s0], σ) = some (.inl (some (.int s0)), σ) := by
  exact r_iret (show decode (zb m_PL_law) 73 = .ok (.ireturn, 1) from by decide +kernel) rfl rfl
theorem e_PL_work {d : Nat} {σ : HP} {a0 : Nat} {x1 : Int32} : callF (d + 1) m_PL_work [.ref a0, .int x1] σ = runF (callF d) d m_PL_work (0, [some (.ref a0), some (.int x1)], [], σ) := callF_in rfl rfl
theorem b_PL_work_0 {C : CF} {d : Nat} {σ : HP} {a0 : Nat} {x1 : Int32} (h1 : a0 % 64 = 11) : runF C d m_PL_work (0, [some (.ref a0), some (.int x1)], [], σ) = bk C d m_PL_work 5 [some (.ref a0), some (.int x1)] [] (C m_PL_openText [.ref a0, .int x1, .int ((150 : Int32))] σ) := by
  refine (r_aloadn 0 (show decode (zb m_PL_work) 0 = .ok (.aload_n 0, 1) from by decide +kernel) rfl).trans ?_
  refine (r_iloadn 1 (show decode (zb m_PL_work) 1 = .ok (.iload_n 1, 1) from by decide +kernel) rfl).trans ?_
  refine (r_sipush (v := (150 : Int32)) (show decode (zb m_PL_work) 2 = .ok (.sipush (150), 3) from by decide +kernel) (by decide)).trans ?_
  exact r_virt (args := [.int x1, .int ((150 : Int32))]) (rest := []) (show decode (zb m_PL_work) 5 = .ok (.invokevirtual 91, 3) from by decide +kernel) rfl rfl rfl h1
theorem b_PL_work_8 {C : CF} {d : Nat} {σ : HP} {a0 : Nat} {l1 : Option Value} (h1 : a0 % 64 = 11) (h2 : (gR σ a0 4).isSome = true) (h3 : (dr (gR σ a0 4)) % 64 = 6) : runF C d m_PL_work (8, [some (.ref a0), l1], [], σ) = bk C d m_PL_work 12 [some (.ref a0), l1] [] (C m_Past_isFull [.ref (dr (gR σ a0 4))] σ) := by
  refine (r_aloadn 0 (show decode (zb m_PL_work) 8 = .ok (.aload_n 0, 1) from by decide +kernel) rfl).trans ?_
  refine (r_getR (show decode (zb m_PL_work) 9 = .ok (.getfield 36, 3) from by decide +kernel) rfl rfl h1 h2).trans ?_
  exact r_virt (args := []) (rest := []) (show decode (zb m_PL_work) 12 = .ok (.invokevirtual 134, 3) from by decide +kernel) rfl rfl rfl h3
theorem b_PL_work_15 {C : CF} {d : Nat} {σ : HP} {s0 : Int32} {l0 : Option Value} {l1 : Option Value}  : runF C d m_PL_work (15, [l0, l1], [.int s0], σ) = if s0 = 0 then runF C d m_PL_work (26, [l0, l1], [], σ) else runF C d m_PL_work (18, [l0, l1], [], σ) := by
  exact r_if_eq 26 (show decode (zb m_PL_work) 15 = .ok (.ifCond .eq (11), 3) from by decide +kernel) rfl
theorem b_PL_work_18 {C : CF} {d : Nat} {σ : HP} {a0 : Nat} {l1 : Option Value} (h1 : a0 % 64 = 11) : runF C d m_PL_work (18, [some (.ref a0), l1], [], σ) = some (.inl (some (.int (-20 : Int32))), wI σ a0 11 (-1 : Int32)) := by
  refine (r_aloadn 0 (show decode (zb m_PL_work) 18 = .ok (.aload_n 0, 1) from by decide +kernel) rfl).trans ?_
  refine (r_iconst (v := (-1 : Int32)) (show decode (zb m_PL_work) 19 = .ok (.iconst (-1), 1) from by decide +kernel) (by decide)).trans ?_
  refine (r_putI (show decode (zb m_PL_work) 20 = .ok (.putfield 75, 3) from by decide +kernel) rfl rfl rfl h1).trans ?_
  refine (r_bipush (v := (-20 : Int32)) (show decode (zb m_PL_work) 23 = .ok (.bipush (-20), 2) from by decide +kernel) (by decide)).trans ?_
  exact r_iret (show decode (zb m_PL_work) 25 = .ok (.ireturn, 1) from by decide +kernel) rfl rfl
theorem b_PL_work_26 {C : CF} {d : Nat} {σ : HP} {a0 : Nat} {l1 : Option Value} (h1 : a0 % 64 = 11) (h2 : (gR σ a0 3).isSome = true) (h3 : (dr (gR σ a0 3)) % 64 = 10) : runF C d m_PL_work (26, [some (.ref a0), l1], [], σ) = bk C d m_PL_work 30 [some (.ref a0), l1] [] (C m_Work_wipe [.ref (dr (gR σ a0 3))] σ) := by
  refine (r_aloadn 0 (show decode (zb m_PL_work) 26 = .ok (.aload_n 0, 1) from by decide +kernel) rfl).trans ?_
  refine (r_getR (show decode (zb m_PL_work) 27 = .ok (.getfield 29, 3) from by decide +kernel) rfl rfl h1 h2).trans ?_
  exact r_virt (args := []) (rest := []) (show decode (zb m_PL_work) 30 = .ok (.invokevirtual 137, 3) from by decide +kernel) rfl rfl rfl h3
theorem b_PL_work_33 {C : CF} {d : Nat} {σ : HP} {a0 : Nat} {l1 : Option Value} (h1 : a0 % 64 = 11) (h2 : (gR σ a0 3).isSome = true) (h3 : (gR σ a0 0).isSome = true) (h4 : (gR σ a0 1).isSome = true) (h5 : (dr (gR σ a0 1)) % 64 = 5) (h6 : (gR σ (dr (gR σ a0 1)) 0).isSome = true) (h7 : (dr (gR σ a0 3)) % 64 = 10) : runF C d m_PL_work (33, [some (.ref a0), l1], [], σ) = bk C d m_PL_work 49 [some (.ref a0), l1] [] (C m_Work_readSteps [.ref (dr (gR σ a0 3)), .ref (dr (gR σ a0 0)), .ref (dr (gR σ (dr (gR σ a0 1)) 0)), .int ((0 : Int32))] σ) := by
  refine (r_aloadn 0 (show decode (zb m_PL_work) 33 = .ok (.aload_n 0, 1) from by decide +kernel) rfl).trans ?_
  refine (r_getR (show decode (zb m_PL_work) 34 = .ok (.getfield 29, 3) from by decide +kernel) rfl rfl h1 h2).trans ?_
  refine (r_aloadn 0 (show decode (zb m_PL_work) 37 = .ok (.aload_n 0, 1) from by decide +kernel) rfl).trans ?_
  refine (r_getR (show decode (zb m_PL_work) 38 = .ok (.getfield 10, 3) from by decide +kernel) rfl rfl h1 h3).trans ?_
  refine (r_aloadn 0 (show decode (zb m_PL_work) 41 = .ok (.aload_n 0, 1) from by decide +kernel) rfl).trans ?_
  refine (r_getR (show decode (zb m_PL_work) 42 = .ok (.getfield 19, 3) from by decide +kernel) rfl rfl h1 h4).trans ?_
  refine (r_getR (show decode (zb m_PL_work) 45 = .ok (.getfield 138, 3) from by decide +kernel) rfl rfl h5 h6).trans ?_
  refine (r_iconst (v := (0 : Int32)) (show decode (zb m_PL_work) 48 = .ok (.iconst (0), 1) from by decide +kernel) (by decide)).trans ?_
  exact r_virt (args := [.ref (dr (gR σ a0 0)), .ref (dr (gR σ (dr (gR σ a0 1)) 0)), .int ((0 : Int32))]) (rest := []) (show decode (zb m_PL_work) 49 = .ok (.invokevirtual 142, 3) from by decide +kernel) rfl rfl rfl h7
theorem b_PL_work_52 {C : CF} {d : Nat} {σ : HP} {a0 : Nat} {l1 : Option Value} (h1 : a0 % 64 = 11) (h2 : (gR σ a0 0).isSome = true) (h3 : (dr (gR σ a0 0)) % 64 = 7) : runF C d m_PL_work (52, [some (.ref a0), l1], [], σ) = bk C d m_PL_work 56 [some (.ref a0), l1] [] (C m_Reader_failed [.ref (dr (gR σ a0 0))] σ) := by
  refine (r_aloadn 0 (show decode (zb m_PL_work) 52 = .ok (.aload_n 0, 1) from by decide +kernel) rfl).trans ?_
  refine (r_getR (show decode (zb m_PL_work) 53 = .ok (.getfield 10, 3) from by decide +kernel) rfl rfl h1 h2).trans ?_
  exact r_virt (args := []) (rest := []) (show decode (zb m_PL_work) 56 = .ok (.invokevirtual 102, 3) from by decide +kernel) rfl rfl rfl h3
theorem b_PL_work_59 {C : CF} {d : Nat} {σ : HP} {s0 : Int32} {l0 : Option Value} {l1 : Option Value}  : runF C d m_PL_work (59, [l0, l1], [.int s0], σ) = if ¬ s0 = 0 then runF C d m_PL_work (107, [l0, l1], [], σ) else runF C d m_PL_work (62, [l0, l1], [], σ) := by
  exact r_if_ne 107 (show decode (zb m_PL_work) 59 = .ok (.ifCond .ne (48), 3) from by decide +kernel) rfl
theorem b_PL_work_62 {C : CF} {d : Nat} {σ : HP} {a0 : Nat} {l1 : Option Value} (h1 : a0 % 64 = 11) (h2 : (gR σ a0 4).isSome = true) (h3 : (gR σ a0 1).isSome = true) (h4 : (dr (gR σ a0 1)) % 64 = 5) (h5 : (gR σ (dr (gR σ a0 1)) 2).isSome = true) (h6 : (dr (gR σ a0 4)) % 64 = 6) : runF C d m_PL_work (62, [some (.ref a0), l1], [], σ) = bk C d m_PL_work 73 [some (.ref a0), l1] [] (C m_Past_keepWork [.ref (dr (gR σ a0 4)), .ref (dr (gR σ (dr (gR σ a0 1)) 2))] σ) := by
  refine (r_aloadn 0 (show decode (zb m_PL_work) 62 = .ok (.aload_n 0, 1) from by decide +kernel) rfl).trans ?_
  refine (r_getR (show decode (zb m_PL_work) 63 = .ok (.getfield 36, 3) from by decide +kernel) rfl rfl h1 h2).trans ?_
  refine (r_aloadn 0 (show decode (zb m_PL_work) 66 = .ok (.aload_n 0, 1) from by decide +kernel) rfl).trans ?_
  refine (r_getR (show decode (zb m_PL_work) 67 = .ok (.getfield 19, 3) from by decide +kernel) rfl rfl h1 h3).trans ?_
  refine (r_getR (show decode (zb m_PL_work) 70 = .ok (.getfield 146, 3) from by decide +kernel) rfl rfl h4 h5).trans ?_
  exact r_virt (args := [.ref (dr (gR σ (dr (gR σ a0 1)) 2))]) (rest := []) (show decode (zb m_PL_work) 73 = .ok (.invokevirtual 150, 3) from by decide +kernel) rfl rfl rfl h6
theorem b_PL_work_76 {C : CF} {d : Nat} {σ : HP} {a0 : Nat} {l1 : Option Value} (h1 : a0 % 64 = 11) (h2 : (gR σ a0 3).isSome = true) (h3 : (gR σ a0 1).isSome = true) (h4 : (dr (gR σ a0 3)) % 64 = 10) : runF C d m_PL_work (76, [some (.ref a0), l1], [], σ) = bk C d m_PL_work 93 [some (.ref a0), l1] [] (C m_Work_doSteps [.ref (dr (gR σ a0 3)), .ref (dr (gR σ a0 1)), .int ((0 : Int32)), .int (gI σ (dr (gR σ a0 3)) 3), .int ((0 : Int32))] σ) := by
  refine (r_aloadn 0 (show decode (zb m_PL_work) 76 = .ok (.aload_n 0, 1) from by decide +kernel) rfl).trans ?_
  refine (r_getR (show decode (zb m_PL_work) 77 = .ok (.getfield 29, 3) from by decide +kernel) rfl rfl h1 h2).trans ?_
  refine (r_aloadn 0 (show decode (zb m_PL_work) 80 = .ok (.aload_n 0, 1) from by decide +kernel) rfl).trans ?_
  refine (r_getR (show decode (zb m_PL_work) 81 = .ok (.getfield 19, 3) from by decide +kernel) rfl rfl h1 h3).trans ?_
  refine (r_iconst (v := (0 : Int32)) (show decode (zb m_PL_work) 84 = .ok (.iconst (0), 1) from by decide +kernel) (by decide)).trans ?_
  refine (r_aloadn 0 (show decode (zb m_PL_work) 85 = .ok (.aload_n 0, 1) from by decide +kernel) rfl).trans ?_
  refine (r_getR (show decode (zb m_PL_work) 86 = .ok (.getfield 29, 3) from by decide +kernel) rfl rfl h1 h2).trans ?_
  refine (r_getI (show decode (zb m_PL_work) 89 = .ok (.getfield 154, 3) from by decide +kernel) rfl rfl h4).trans ?_
  refine (r_iconst (v := (0 : Int32)) (show decode (zb m_PL_work) 92 = .ok (.iconst (0), 1) from by decide +kernel) (by decide)).trans ?_
  exact r_virt (args := [.ref (dr (gR σ a0 1)), .int ((0 : Int32)), .int (gI σ (dr (gR σ a0 3)) 3), .int ((0 : Int32))]) (rest := []) (show decode (zb m_PL_work) 93 = .ok (.invokevirtual 157, 3) from by decide +kernel) rfl rfl rfl h4
theorem b_PL_work_96 {C : CF} {d : Nat} {σ : HP} {a0 : Nat} {l1 : Option Value} (h1 : a0 % 64 = 11) (h2 : (gR σ a0 3).isSome = true) (h3 : (dr (gR σ a0 3)) % 64 = 10) : runF C d m_PL_work (96, [some (.ref a0), l1], [], σ) = runF C d m_PL_work (107, [some (.ref a0), l1], [], wI σ a0 12 (gI σ (dr (gR σ a0 3)) 6)) := by
  refine (r_aloadn 0 (show decode (zb m_PL_work) 96 = .ok (.aload_n 0, 1) from by decide +kernel) rfl).trans ?_
  refine (r_aloadn 0 (show decode (zb m_PL_work) 97 = .ok (.aload_n 0, 1) from by decide +kernel) rfl).trans ?_
  refine (r_getR (show decode (zb m_PL_work) 98 = .ok (.getfield 29, 3) from by decide +kernel) rfl rfl h1 h2).trans ?_
  refine (r_getI (show decode (zb m_PL_work) 101 = .ok (.getfield 161, 3) from by decide +kernel) rfl rfl h3).trans ?_
  exact r_putI (show decode (zb m_PL_work) 104 = .ok (.putfield 78, 3) from by decide +kernel) rfl rfl rfl h1
theorem b_PL_work_107 {C : CF} {d : Nat} {σ : HP} {a0 : Nat} {l1 : Option Value} (h1 : a0 % 64 = 11) (h2 : (gR σ a0 3).isSome = true) (h3 : (dr (gR σ a0 3)) % 64 = 10) : runF C d m_PL_work (107, [some (.ref a0), l1], [], σ) = bk C d m_PL_work 115 [some (.ref a0), l1] [] (C m_PL_closeText [.ref a0, .int (gI σ (dr (gR σ a0 3)) 5)] σ) := by
  refine (r_aloadn 0 (show decode (zb m_PL_work) 107 = .ok (.aload_n 0, 1) from by decide +kernel) rfl).trans ?_
  refine (r_aloadn 0 (show decode (zb m_PL_work) 108 = .ok (.aload_n 0, 1) from by decide +kernel) rfl).trans ?_
  refine (r_getR (show decode (zb m_PL_work) 109 = .ok (.getfield 29, 3) from by decide +kernel) rfl rfl h1 h2).trans ?_
  refine (r_getI (show decode (zb m_PL_work) 112 = .ok (.getfield 164, 3) from by decide +kernel) rfl rfl h3).trans ?_
  exact r_virt (args := [.int (gI σ (dr (gR σ a0 3)) 5)]) (rest := []) (show decode (zb m_PL_work) 115 = .ok (.invokevirtual 119, 3) from by decide +kernel) rfl rfl rfl h1
theorem b_PL_work_118 {C : CF} {d : Nat} {σ : HP} {s0 : Int32} {l0 : Option Value} {l1 : Option Value}  : runF C d m_PL_work (118, [l0, l1], [.int s0], σ) = some (.inl (some (.int s0)), σ) := by
  exact r_iret (show decode (zb m_PL_work) 118 = .ok (.ireturn, 1) from by decide +kernel) rfl rfl
theorem e_PL_book {d : Nat} {σ : HP} {a0 : Nat} {x1 : Int32} : callF (d + 1) m_PL_book [.ref a0, .int x1] σ = runF (callF d) d m_PL_book (0, [some (.ref a0), some (.int x1), none], [], σ) := callF_in rfl rfl
theorem b_PL_book_0 {C : CF} {d : Nat} {σ : HP} {a0 : Nat} {x1 : Int32} {l2 : Option Value} (h1 : a0 % 64 = 11) : runF C d m_PL_book (0, [some (.ref a0), some (.int x1), l2], [], σ) = bk C d m_PL_book 4 [some (.ref a0), some (.int x1), l2] [] (C m_PL_openText [.ref a0, .int x1, .int ((60 : Int32))] σ) := by
  refine (r_aloadn 0 (show decode (zb m_PL_book) 0 = .ok (.aload_n 0, 1) from by decide +kernel) rfl).trans ?_
  refine (r_iloadn 1 (show decode (zb m_PL_book) 1 = .ok (.iload_n 1, 1) from by decide +kernel) rfl).trans ?_
  refine (r_bipush (v := (60 : Int32)) (show decode (zb m_PL_book) 2 = .ok (.bipush (60), 2) from by decide +kernel) (by decide)).trans ?_
  exact r_virt (args := [.int x1, .int ((60 : Int32))]) (rest := []) (show decode (zb m_PL_book) 4 = .ok (.invokevirtual 91, 3) from by decide +kernel) rfl rfl rfl h1
theorem b_PL_book_7 {C : CF} {d : Nat} {σ : HP} {a0 : Nat} {l1 : Option Value} {l2 : Option Value} (h1 : a0 % 64 = 11) (h2 : (gR σ a0 9).isSome = true) (h3 : (gR σ a0 0).isSome = true) (h4 : (gR σ a0 1).isSome = true) (h5 : (dr (gR σ a0 1)) % 64 = 5) (h6 : (gR σ (dr (gR σ a0 1)) 0).isSome = true) (h7 : (dr (gR σ (dr (gR σ a0 1)) 0)) % 64 = 2) (h8 : (dr (gR σ a0 9)) % 64 = 0) : runF C d m_PL_book (7, [some (.ref a0), l1, l2], [], σ) = bk C d m_PL_book 25 [some (.ref a0), l1, l2] [] (C m_Book_readLines [.ref (dr (gR σ a0 9)), .ref (dr (gR σ a0 0)), .int (gI σ (dr (gR σ (dr (gR σ a0 1)) 0)) 1)] σ) := by
  refine (r_aloadn 0 (show decode (zb m_PL_book) 7 = .ok (.aload_n 0, 1) from by decide +kernel) rfl).trans ?_
  refine (r_getR (show decode (zb m_PL_book) 8 = .ok (.getfield 68, 3) from by decide +kernel) rfl rfl h1 h2).trans ?_
  refine (r_aloadn 0 (show decode (zb m_PL_book) 11 = .ok (.aload_n 0, 1) from by decide +kernel) rfl).trans ?_
  refine (r_getR (show decode (zb m_PL_book) 12 = .ok (.getfield 10, 3) from by decide +kernel) rfl rfl h1 h3).trans ?_
  refine (r_aloadn 0 (show decode (zb m_PL_book) 15 = .ok (.aload_n 0, 1) from by decide +kernel) rfl).trans ?_
  refine (r_getR (show decode (zb m_PL_book) 16 = .ok (.getfield 19, 3) from by decide +kernel) rfl rfl h1 h4).trans ?_
  refine (r_getR (show decode (zb m_PL_book) 19 = .ok (.getfield 138, 3) from by decide +kernel) rfl rfl h5 h6).trans ?_
  refine (r_getI (show decode (zb m_PL_book) 22 = .ok (.getfield 116, 3) from by decide +kernel) rfl rfl h7).trans ?_
  exact r_virt (args := [.ref (dr (gR σ a0 0)), .int (gI σ (dr (gR σ (dr (gR σ a0 1)) 0)) 1)]) (rest := []) (show decode (zb m_PL_book) 25 = .ok (.invokevirtual 167, 3) from by decide +kernel) rfl rfl rfl h8
theorem b_PL_book_28 {C : CF} {d : Nat} {σ : HP} {a0 : Nat} {l1 : Option Value} {l2 : Option Value} (h1 : a0 % 64 = 11) (h2 : (gR σ a0 0).isSome = true) (h3 : (dr (gR σ a0 0)) % 64 = 7) : runF C d m_PL_book (28, [some (.ref a0), l1, l2], [], σ) = bk C d m_PL_book 32 [some (.ref a0), l1, l2] [] (C m_Reader_failed [.ref (dr (gR σ a0 0))] σ) := by
  refine (r_aloadn 0 (show decode (zb m_PL_book) 28 = .ok (.aload_n 0, 1) from by decide +kernel) rfl).trans ?_
  refine (r_getR (show decode (zb m_PL_book) 29 = .ok (.getfield 10, 3) from by decide +kernel) rfl rfl h1 h2).trans ?_
  exact r_virt (args := []) (rest := []) (show decode (zb m_PL_book) 32 = .ok (.invokevirtual 102, 3) from by decide +kernel) rfl rfl rfl h3
theorem b_PL_book_35 {C : CF} {d : Nat} {σ : HP} {s0 : Int32} {l0 : Option Value} {l1 : Option Value} {l2 : Option Value}  : runF C d m_PL_book (35, [l0, l1, l2], [.int s0], σ) = if ¬ s0 = 0 then runF C d m_PL_book (56, [l0, l1, l2], [], σ) else runF C d m_PL_book (38, [l0, l1, l2], [], σ) := by
  exact r_if_ne 56 (show decode (zb m_PL_book) 35 = .ok (.ifCond .ne (21), 3) from by decide +kernel) rfl
theorem b_PL_book_38 {C : CF} {d : Nat} {σ : HP} {a0 : Nat} {l1 : Option Value} {l2 : Option Value} (h1 : a0 % 64 = 11) (h2 : (gR σ a0 8).isSome = true) (h3 : (gR σ a0 9).isSome = true) : runF C d m_PL_book (38, [some (.ref a0), l1, l2], [], σ) = runF C d m_PL_book (56, [some (.ref a0), l1, some (.ref (dr (gR σ a0 8)))], [], wR (wR σ a0 8 (some (dr (gR σ a0 9)))) a0 9 (some (dr (gR σ a0 8)))) := by
  refine (r_aloadn 0 (show decode (zb m_PL_book) 38 = .ok (.aload_n 0, 1) from by decide +kernel) rfl).trans ?_
  refine (r_getR (show decode (zb m_PL_book) 39 = .ok (.getfield 64, 3) from by decide +kernel) rfl rfl h1 h2).trans ?_
  refine (r_astoren 2 (show decode (zb m_PL_book) 42 = .ok (.astore_n 2, 1) from by decide +kernel) rfl).trans ?_
  refine (r_aloadn 0 (show decode (zb m_PL_book) 43 = .ok (.aload_n 0, 1) from by decide +kernel) rfl).trans ?_
  refine (r_aloadn 0 (show decode (zb m_PL_book) 44 = .ok (.aload_n 0, 1) from by decide +kernel) rfl).trans ?_
  refine (r_getR (show decode (zb m_PL_book) 45 = .ok (.getfield 68, 3) from by decide +kernel) rfl rfl h1 h3).trans ?_
  refine (r_putR (show decode (zb m_PL_book) 48 = .ok (.putfield 64, 3) from by decide +kernel) rfl rfl rfl h1).trans ?_
  refine (r_aloadn 0 (show decode (zb m_PL_book) 51 = .ok (.aload_n 0, 1) from by decide +kernel) rfl).trans ?_
  refine (r_aloadn 2 (show decode (zb m_PL_book) 52 = .ok (.aload_n 2, 1) from by decide +kernel) rfl).trans ?_
  exact r_putR (show decode (zb m_PL_book) 53 = .ok (.putfield 68, 3) from by decide +kernel) rfl rfl rfl h1
theorem b_PL_book_56 {C : CF} {d : Nat} {σ : HP} {a0 : Nat} {l1 : Option Value} {l2 : Option Value} (h1 : a0 % 64 = 11) (h2 : (gR σ a0 8).isSome = true) (h3 : (dr (gR σ a0 8)) % 64 = 0) : runF C d m_PL_book (56, [some (.ref a0), l1, l2], [], σ) = bk C d m_PL_book 64 [some (.ref a0), l1, l2] [] (C m_PL_closeText [.ref a0, .int (gI σ (dr (gR σ a0 8)) 1)] σ) := by
  refine (r_aloadn 0 (show decode (zb m_PL_book) 56 = .ok (.aload_n 0, 1) from by decide +kernel) rfl).trans ?_
  refine (r_aloadn 0 (show decode (zb m_PL_book) 57 = .ok (.aload_n 0, 1) from by decide +kernel) rfl).trans ?_
  refine (r_getR (show decode (zb m_PL_book) 58 = .ok (.getfield 64, 3) from by decide +kernel) rfl rfl h1 h2).trans ?_
  refine (r_getI (show decode (zb m_PL_book) 61 = .ok (.getfield 170, 3) from by decide +kernel) rfl rfl h3).trans ?_
  exact r_virt (args := [.int (gI σ (dr (gR σ a0 8)) 1)]) (rest := []) (show decode (zb m_PL_book) 64 = .ok (.invokevirtual 119, 3) from by decide +kernel) rfl rfl rfl h1
theorem b_PL_book_67 {C : CF} {d : Nat} {σ : HP} {s0 : Int32} {l0 : Option Value} {l1 : Option Value} {l2 : Option Value}  : runF C d m_PL_book (67, [l0, l1, l2], [.int s0], σ) = some (.inl (some (.int s0)), σ) := by
  exact r_iret (show decode (zb m_PL_book) 67 = .ok (.ireturn, 1) from by decide +kernel) rfl rfl
theorem e_PL_told {d : Nat} {σ : HP} {a0 : Nat} {x1 : Int32} : callF (d + 1) m_PL_told [.ref a0, .int x1] σ = runF (callF d) d m_PL_told (0, [some (.ref a0), some (.int x1)], [], σ) := callF_in rfl rfl
theorem b_PL_told_0 {C : CF} {d : Nat} {σ : HP} {a0 : Nat} {x1 : Int32}  : runF C d m_PL_told (0, [some (.ref a0), some (.int x1)], [], σ) = bkN C d m_PL_told 5 [some (.ref a0), some (.int x1)] [.ref a0] (C m_PL_isWithin [.int x1, .int ((0 : Int32)), .int ((11 : Int32))] σ) := by
  refine (r_aloadn 0 (show decode (zb m_PL_told) 0 = .ok (.aload_n 0, 1) from by decide +kernel) rfl).trans ?_
  refine (r_iloadn 1 (show decode (zb m_PL_told) 1 = .ok (.iload_n 1, 1) from by decide +kernel) rfl).trans ?_
  refine (r_iconst (v := (0 : Int32)) (show decode (zb m_PL_told) 2 = .ok (.iconst (0), 1) from by decide +kernel) (by decide)).trans ?_
  refine (r_bipush (v := (11 : Int32)) (show decode (zb m_PL_told) 3 = .ok (.bipush (11), 2) from by decide +kernel) (by decide)).trans ?_
  exact r_stat (args := [.int x1, .int ((0 : Int32)), .int ((11 : Int32))]) (rest := [.ref a0]) (show decode (zb m_PL_told) 5 = .ok (.invokestatic 177, 3) from by decide +kernel) rfl (by decide) rfl rfl
theorem b_PL_told_8 {C : CF} {d : Nat} {σ : HP} {s0 : Int32} {r1 : Nat} {l0 : Option Value} {l1 : Option Value} (h1 : r1 % 64 = 11) : runF C d m_PL_told (8, [l0, l1], [.int s0, .ref r1], σ) = bk C d m_PL_told 8 [l0, l1] [] (C m_PL_needArgument [.ref r1, .int s0] σ) := by
  exact r_virt (args := [.int s0]) (rest := []) (show decode (zb m_PL_told) 8 = .ok (.invokevirtual 181, 3) from by decide +kernel) rfl rfl rfl h1
theorem b_PL_told_11 {C : CF} {d : Nat} {σ : HP} {x1 : Int32} {l0 : Option Value}  : runF C d m_PL_told (11, [l0, some (.int x1)], [], σ) = if x1 = 0 then runF C d m_PL_told (72, [l0, some (.int x1)], [], σ) else if x1 = 1 then runF C d m_PL_told (83, [l0, some (.int x1)], [], σ) else if x1 = 2 then runF C d m_PL_told (94, [l0, some (.int x1)], [], σ) else if x1 = 3 then runF C d m_PL_told (105, [l0, some (.int x1)], [], σ) else if x1 = 4 then runF C d m_PL_told (116, [l0, some (.int x1)], [], σ) else if x1 = 5 then runF C d m_PL_told (127, [l0, some (.int x1)], [], σ) else if x1 = 6 then runF C d m_PL_told (138, [l0, some (.int x1)], [], σ) else if x1 = 7 then runF C d m_PL_told (146, [l0, some (.int x1)], [], σ) else if x1 = 8 then runF C d m_PL_told (157, [l0, some (.int x1)], [], σ) else if x1 = 9 then runF C d m_PL_told (168, [l0, some (.int x1)], [], σ) else if x1 = 10 then runF C d m_PL_told (176, [l0, some (.int x1)], [], σ) else runF C d m_PL_told (181, [l0, some (.int x1)], [], σ) := by
  refine (r_iloadn 1 (show decode (zb m_PL_told) 11 = .ok (.iload_n 1, 1) from by decide +kernel) rfl).trans ?_
  by_cases q0 : x1 = 0
  · rw [if_pos q0]
    exact r_table 72 (show decode (zb m_PL_told) 12 = .ok (.tableswitch (169) (0) (10) #[(60), (71), (82), (93), (104), (115), (126), (134), (145), (156), (164)], 60) from by decide +kernel) (tb_in q0 rfl rfl rfl)
  rw [if_neg q0]
  by_cases q1 : x1 = 1
  · rw [if_pos q1]
    exact r_table 83 (show decode (zb m_PL_told) 12 = .ok (.tableswitch (169) (0) (10) #[(60), (71), (82), (93), (104), (115), (126), (134), (145), (156), (164)], 60) from by decide +kernel) (tb_in q1 rfl rfl rfl)
  rw [if_neg q1]
  by_cases q2 : x1 = 2
  · rw [if_pos q2]
    exact r_table 94 (show decode (zb m_PL_told) 12 = .ok (.tableswitch (169) (0) (10) #[(60), (71), (82), (93), (104), (115), (126), (134), (145), (156), (164)], 60) from by decide +kernel) (tb_in q2 rfl rfl rfl)
  rw [if_neg q2]
  by_cases q3 : x1 = 3
  · rw [if_pos q3]
    exact r_table 105 (show decode (zb m_PL_told) 12 = .ok (.tableswitch (169) (0) (10) #[(60), (71), (82), (93), (104), (115), (126), (134), (145), (156), (164)], 60) from by decide +kernel) (tb_in q3 rfl rfl rfl)
  rw [if_neg q3]
  by_cases q4 : x1 = 4
  · rw [if_pos q4]
    exact r_table 116 (show decode (zb m_PL_told) 12 = .ok (.tableswitch (169) (0) (10) #[(60), (71), (82), (93), (104), (115), (126), (134), (145), (156), (164)], 60) from by decide +kernel) (tb_in q4 rfl rfl rfl)
  rw [if_neg q4]
  by_cases q5 : x1 = 5
  · rw [if_pos q5]
    exact r_table 127 (show decode (zb m_PL_told) 12 = .ok (.tableswitch (169) (0) (10) #[(60), (71), (82), (93), (104), (115), (126), (134), (145), (156), (164)], 60) from by decide +kernel) (tb_in q5 rfl rfl rfl)
  rw [if_neg q5]
  by_cases q6 : x1 = 6
  · rw [if_pos q6]
    exact r_table 138 (show decode (zb m_PL_told) 12 = .ok (.tableswitch (169) (0) (10) #[(60), (71), (82), (93), (104), (115), (126), (134), (145), (156), (164)], 60) from by decide +kernel) (tb_in q6 rfl rfl rfl)
  rw [if_neg q6]
  by_cases q7 : x1 = 7
  · rw [if_pos q7]
    exact r_table 146 (show decode (zb m_PL_told) 12 = .ok (.tableswitch (169) (0) (10) #[(60), (71), (82), (93), (104), (115), (126), (134), (145), (156), (164)], 60) from by decide +kernel) (tb_in q7 rfl rfl rfl)
  rw [if_neg q7]
  by_cases q8 : x1 = 8
  · rw [if_pos q8]
    exact r_table 157 (show decode (zb m_PL_told) 12 = .ok (.tableswitch (169) (0) (10) #[(60), (71), (82), (93), (104), (115), (126), (134), (145), (156), (164)], 60) from by decide +kernel) (tb_in q8 rfl rfl rfl)
  rw [if_neg q8]
  by_cases q9 : x1 = 9
  · rw [if_pos q9]
    exact r_table 168 (show decode (zb m_PL_told) 12 = .ok (.tableswitch (169) (0) (10) #[(60), (71), (82), (93), (104), (115), (126), (134), (145), (156), (164)], 60) from by decide +kernel) (tb_in q9 rfl rfl rfl)
  rw [if_neg q9]
  by_cases q10 : x1 = 10
  · rw [if_pos q10]
    exact r_table 176 (show decode (zb m_PL_told) 12 = .ok (.tableswitch (169) (0) (10) #[(60), (71), (82), (93), (104), (115), (126), (134), (145), (156), (164)], 60) from by decide +kernel) (tb_in q10 rfl rfl rfl)
  rw [if_neg q10]
  have e0 : (Int32.toInt x1) ≠ 0 := ne_toInt q0
  have e1 : (Int32.toInt x1) ≠ 1 := ne_toInt q1
  have e2 : (Int32.toInt x1) ≠ 2 := ne_toInt q2
  have e3 : (Int32.toInt x1) ≠ 3 := ne_toInt q3
  have e4 : (Int32.toInt x1) ≠ 4 := ne_toInt q4
  have e5 : (Int32.toInt x1) ≠ 5 := ne_toInt q5
  have e6 : (Int32.toInt x1) ≠ 6 := ne_toInt q6
  have e7 : (Int32.toInt x1) ≠ 7 := ne_toInt q7
  have e8 : (Int32.toInt x1) ≠ 8 := ne_toInt q8
  have e9 : (Int32.toInt x1) ≠ 9 := ne_toInt q9
  have e10 : (Int32.toInt x1) ≠ 10 := ne_toInt q10
  exact r_table 181 (show decode (zb m_PL_told) 12 = .ok (.tableswitch (169) (0) (10) #[(60), (71), (82), (93), (104), (115), (126), (134), (145), (156), (164)], 60) from by decide +kernel) (tb_out (by omega) rfl)
theorem b_PL_told_72 {C : CF} {d : Nat} {σ : HP} {a0 : Nat} {l1 : Option Value} (h1 : a0 % 64 = 11) (h2 : (gR σ a0 1).isSome = true) (h3 : (dr (gR σ a0 1)) % 64 = 5) (h4 : (gR σ (dr (gR σ a0 1)) 0).isSome = true) (h5 : (dr (gR σ (dr (gR σ a0 1)) 0)) % 64 = 2) : runF C d m_PL_told (72, [some (.ref a0), l1], [], σ) = some (.inl (some (.int (gI σ (dr (gR σ (dr (gR σ a0 1)) 0)) 0))), σ) := by
  refine (r_aloadn 0 (show decode (zb m_PL_told) 72 = .ok (.aload_n 0, 1) from by decide +kernel) rfl).trans ?_
  refine (r_getR (show decode (zb m_PL_told) 73 = .ok (.getfield 19, 3) from by decide +kernel) rfl rfl h1 h2).trans ?_
  refine (r_getR (show decode (zb m_PL_told) 76 = .ok (.getfield 138, 3) from by decide +kernel) rfl rfl h3 h4).trans ?_
  refine (r_getI (show decode (zb m_PL_told) 79 = .ok (.getfield 185, 3) from by decide +kernel) rfl rfl h5).trans ?_
  exact r_iret (show decode (zb m_PL_told) 82 = .ok (.ireturn, 1) from by decide +kernel) rfl rfl
theorem b_PL_told_83 {C : CF} {d : Nat} {σ : HP} {a0 : Nat} {l1 : Option Value} (h1 : a0 % 64 = 11) (h2 : (gR σ a0 1).isSome = true) (h3 : (dr (gR σ a0 1)) % 64 = 5) (h4 : (gR σ (dr (gR σ a0 1)) 0).isSome = true) (h5 : (dr (gR σ (dr (gR σ a0 1)) 0)) % 64 = 2) : runF C d m_PL_told (83, [some (.ref a0), l1], [], σ) = some (.inl (some (.int (gI σ (dr (gR σ (dr (gR σ a0 1)) 0)) 1))), σ) := by
  refine (r_aloadn 0 (show decode (zb m_PL_told) 83 = .ok (.aload_n 0, 1) from by decide +kernel) rfl).trans ?_
  refine (r_getR (show decode (zb m_PL_told) 84 = .ok (.getfield 19, 3) from by decide +kernel) rfl rfl h1 h2).trans ?_
  refine (r_getR (show decode (zb m_PL_told) 87 = .ok (.getfield 138, 3) from by decide +kernel) rfl rfl h3 h4).trans ?_
  refine (r_getI (show decode (zb m_PL_told) 90 = .ok (.getfield 116, 3) from by decide +kernel) rfl rfl h5).trans ?_
  exact r_iret (show decode (zb m_PL_told) 93 = .ok (.ireturn, 1) from by decide +kernel) rfl rfl
theorem b_PL_told_94 {C : CF} {d : Nat} {σ : HP} {a0 : Nat} {l1 : Option Value} (h1 : a0 % 64 = 11) (h2 : (gR σ a0 1).isSome = true) (h3 : (dr (gR σ a0 1)) % 64 = 5) (h4 : (gR σ (dr (gR σ a0 1)) 0).isSome = true) (h5 : (dr (gR σ (dr (gR σ a0 1)) 0)) % 64 = 2) : runF C d m_PL_told (94, [some (.ref a0), l1], [], σ) = some (.inl (some (.int (gI σ (dr (gR σ (dr (gR σ a0 1)) 0)) 2))), σ) := by
  refine (r_aloadn 0 (show decode (zb m_PL_told) 94 = .ok (.aload_n 0, 1) from by decide +kernel) rfl).trans ?_
  refine (r_getR (show decode (zb m_PL_told) 95 = .ok (.getfield 19, 3) from by decide +kernel) rfl rfl h1 h2).trans ?_
  refine (r_getR (show decode (zb m_PL_told) 98 = .ok (.getfield 138, 3) from by decide +kernel) rfl rfl h3 h4).trans ?_
  refine (r_getI (show decode (zb m_PL_told) 101 = .ok (.getfield 188, 3) from by decide +kernel) rfl rfl h5).trans ?_
  exact r_iret (show decode (zb m_PL_told) 104 = .ok (.ireturn, 1) from by decide +kernel) rfl rfl
theorem b_PL_told_105 {C : CF} {d : Nat} {σ : HP} {a0 : Nat} {l1 : Option Value} (h1 : a0 % 64 = 11) (h2 : (gR σ a0 1).isSome = true) (h3 : (dr (gR σ a0 1)) % 64 = 5) (h4 : (gR σ (dr (gR σ a0 1)) 2).isSome = true) (h5 : (dr (gR σ (dr (gR σ a0 1)) 2)) % 64 = 1) : runF C d m_PL_told (105, [some (.ref a0), l1], [], σ) = some (.inl (some (.int (gI σ (dr (gR σ (dr (gR σ a0 1)) 2)) 0))), σ) := by
  refine (r_aloadn 0 (show decode (zb m_PL_told) 105 = .ok (.aload_n 0, 1) from by decide +kernel) rfl).trans ?_
  refine (r_getR (show decode (zb m_PL_told) 106 = .ok (.getfield 19, 3) from by decide +kernel) rfl rfl h1 h2).trans ?_
  refine (r_getR (show decode (zb m_PL_told) 109 = .ok (.getfield 146, 3) from by decide +kernel) rfl rfl h3 h4).trans ?_
  refine (r_getI (show decode (zb m_PL_told) 112 = .ok (.getfield 191, 3) from by decide +kernel) rfl rfl h5).trans ?_
  exact r_iret (show decode (zb m_PL_told) 115 = .ok (.ireturn, 1) from by decide +kernel) rfl rfl
theorem b_PL_told_116 {C : CF} {d : Nat} {σ : HP} {a0 : Nat} {l1 : Option Value} (h1 : a0 % 64 = 11) (h2 : (gR σ a0 1).isSome = true) (h3 : (dr (gR σ a0 1)) % 64 = 5) (h4 : (gR σ (dr (gR σ a0 1)) 2).isSome = true) (h5 : (dr (gR σ (dr (gR σ a0 1)) 2)) % 64 = 1) : runF C d m_PL_told (116, [some (.ref a0), l1], [], σ) = some (.inl (some (.int (gI σ (dr (gR σ (dr (gR σ a0 1)) 2)) 1))), σ) := by
  refine (r_aloadn 0 (show decode (zb m_PL_told) 116 = .ok (.aload_n 0, 1) from by decide +kernel) rfl).trans ?_
  refine (r_getR (show decode (zb m_PL_told) 117 = .ok (.getfield 19, 3) from by decide +kernel) rfl rfl h1 h2).trans ?_
  refine (r_getR (show decode (zb m_PL_told) 120 = .ok (.getfield 146, 3) from by decide +kernel) rfl rfl h3 h4).trans ?_
  refine (r_getI (show decode (zb m_PL_told) 123 = .ok (.getfield 196, 3) from by decide +kernel) rfl rfl h5).trans ?_
  exact r_iret (show decode (zb m_PL_told) 126 = .ok (.ireturn, 1) from by decide +kernel) rfl rfl
theorem b_PL_told_127 {C : CF} {d : Nat} {σ : HP} {a0 : Nat} {l1 : Option Value} (h1 : a0 % 64 = 11) (h2 : (gR σ a0 1).isSome = true) (h3 : (dr (gR σ a0 1)) % 64 = 5) (h4 : (gR σ (dr (gR σ a0 1)) 2).isSome = true) (h5 : (dr (gR σ (dr (gR σ a0 1)) 2)) % 64 = 1) : runF C d m_PL_told (127, [some (.ref a0), l1], [], σ) = some (.inl (some (.int (gI σ (dr (gR σ (dr (gR σ a0 1)) 2)) 2))), σ) := by
  refine (r_aloadn 0 (show decode (zb m_PL_told) 127 = .ok (.aload_n 0, 1) from by decide +kernel) rfl).trans ?_
  refine (r_getR (show decode (zb m_PL_told) 128 = .ok (.getfield 19, 3) from by decide +kernel) rfl rfl h1 h2).trans ?_
  refine (r_getR (show decode (zb m_PL_told) 131 = .ok (.getfield 146, 3) from by decide +kernel) rfl rfl h3 h4).trans ?_
  refine (r_getI (show decode (zb m_PL_told) 134 = .ok (.getfield 199, 3) from by decide +kernel) rfl rfl h5).trans ?_
  exact r_iret (show decode (zb m_PL_told) 137 = .ok (.ireturn, 1) from by decide +kernel) rfl rfl
theorem b_PL_told_138 {C : CF} {d : Nat} {σ : HP} {a0 : Nat} {l1 : Option Value} (h1 : a0 % 64 = 11) (h2 : (gR σ a0 1).isSome = true) (h3 : (dr (gR σ a0 1)) % 64 = 5) : runF C d m_PL_told (138, [some (.ref a0), l1], [], σ) = bk C d m_PL_told 142 [some (.ref a0), l1] [] (C m_Lift_loadNow [.ref (dr (gR σ a0 1))] σ) := by
  refine (r_aloadn 0 (show decode (zb m_PL_told) 138 = .ok (.aload_n 0, 1) from by decide +kernel) rfl).trans ?_
  refine (r_getR (show decode (zb m_PL_told) 139 = .ok (.getfield 19, 3) from by decide +kernel) rfl rfl h1 h2).trans ?_
  exact r_virt (args := []) (rest := []) (show decode (zb m_PL_told) 142 = .ok (.invokevirtual 202, 3) from by decide +kernel) rfl rfl rfl h3
theorem b_PL_told_145 {C : CF} {d : Nat} {σ : HP} {s0 : Int32} {l0 : Option Value} {l1 : Option Value}  : runF C d m_PL_told (145, [l0, l1], [.int s0], σ) = some (.inl (some (.int s0)), σ) := by
  exact r_iret (show decode (zb m_PL_told) 145 = .ok (.ireturn, 1) from by decide +kernel) rfl rfl
theorem b_PL_told_146 {C : CF} {d : Nat} {σ : HP} {a0 : Nat} {l1 : Option Value} (h1 : a0 % 64 = 11) (h2 : (gR σ a0 1).isSome = true) (h3 : (dr (gR σ a0 1)) % 64 = 5) (h4 : (gR σ (dr (gR σ a0 1)) 2).isSome = true) (h5 : (dr (gR σ (dr (gR σ a0 1)) 2)) % 64 = 1) : runF C d m_PL_told (146, [some (.ref a0), l1], [], σ) = some (.inl (some (.int (gI σ (dr (gR σ (dr (gR σ a0 1)) 2)) 3))), σ) := by
  refine (r_aloadn 0 (show decode (zb m_PL_told) 146 = .ok (.aload_n 0, 1) from by decide +kernel) rfl).trans ?_
  refine (r_getR (show decode (zb m_PL_told) 147 = .ok (.getfield 19, 3) from by decide +kernel) rfl rfl h1 h2).trans ?_
  refine (r_getR (show decode (zb m_PL_told) 150 = .ok (.getfield 146, 3) from by decide +kernel) rfl rfl h3 h4).trans ?_
  refine (r_getI (show decode (zb m_PL_told) 153 = .ok (.getfield 206, 3) from by decide +kernel) rfl rfl h5).trans ?_
  exact r_iret (show decode (zb m_PL_told) 156 = .ok (.ireturn, 1) from by decide +kernel) rfl rfl
theorem b_PL_told_157 {C : CF} {d : Nat} {σ : HP} {a0 : Nat} {l1 : Option Value} (h1 : a0 % 64 = 11) (h2 : (gR σ a0 1).isSome = true) (h3 : (dr (gR σ a0 1)) % 64 = 5) (h4 : (gR σ (dr (gR σ a0 1)) 0).isSome = true) (h5 : (dr (gR σ (dr (gR σ a0 1)) 0)) % 64 = 2) : runF C d m_PL_told (157, [some (.ref a0), l1], [], σ) = some (.inl (some (.int (gI σ (dr (gR σ (dr (gR σ a0 1)) 0)) 3))), σ) := by
  refine (r_aloadn 0 (show decode (zb m_PL_told) 157 = .ok (.aload_n 0, 1) from by decide +kernel) rfl).trans ?_
  refine (r_getR (show decode (zb m_PL_told) 158 = .ok (.getfield 19, 3) from by decide +kernel) rfl rfl h1 h2).trans ?_
  refine (r_getR (show decode (zb m_PL_told) 161 = .ok (.getfield 138, 3) from by decide +kernel) rfl rfl h3 h4).trans ?_
  refine (r_getI (show decode (zb m_PL_told) 164 = .ok (.getfield 209, 3) from by decide +kernel) rfl rfl h5).trans ?_
  exact r_iret (show decode (zb m_PL_told) 167 = .ok (.ireturn, 1) from by decide +kernel) rfl rfl
theorem b_PL_told_168 {C : CF} {d : Nat} {σ : HP} {a0 : Nat} {l1 : Option Value} (h1 : a0 % 64 = 11) (h2 : (gR σ a0 8).isSome = true) (h3 : (dr (gR σ a0 8)) % 64 = 0) : runF C d m_PL_told (168, [some (.ref a0), l1], [], σ) = some (.inl (some (.int (gI σ (dr (gR σ a0 8)) 1))), σ) := by
  refine (r_aloadn 0 (show decode (zb m_PL_told) 168 = .ok (.aload_n 0, 1) from by decide +kernel) rfl).trans ?_
  refine (r_getR (show decode (zb m_PL_told) 169 = .ok (.getfield 64, 3) from by decide +kernel) rfl rfl h1 h2).trans ?_
  refine (r_getI (show decode (zb m_PL_told) 172 = .ok (.getfield 170, 3) from by decide +kernel) rfl rfl h3).trans ?_
  exact r_iret (show decode (zb m_PL_told) 175 = .ok (.ireturn, 1) from by decide +kernel) rfl rfl
theorem b_PL_told_176 {C : CF} {d : Nat} {σ : HP} {a0 : Nat} {l1 : Option Value} (h1 : a0 % 64 = 11) : runF C d m_PL_told (176, [some (.ref a0), l1], [], σ) = some (.inl (some (.int (gI σ a0 12))), σ) := by
  refine (r_aloadn 0 (show decode (zb m_PL_told) 176 = .ok (.aload_n 0, 1) from by decide +kernel) rfl).trans ?_
  refine (r_getI (show decode (zb m_PL_told) 177 = .ok (.getfield 78, 3) from by decide +kernel) rfl rfl h1).trans ?_
  exact r_iret (show decode (zb m_PL_told) 180 = .ok (.ireturn, 1) from by decide +kernel) rfl rfl
theorem b_PL_told_181 {C : CF} {d : Nat} {σ : HP} {a0 : Nat} {l1 : Option Value} (h1 : a0 % 64 = 11) (h2 : (gR σ a0 1).isSome = true) (h3 : (dr (gR σ a0 1)) % 64 = 5) (h4 : (gR σ (dr (gR σ a0 1)) 2).isSome = true) (h5 : (dr (gR σ (dr (gR σ a0 1)) 2)) % 64 = 1) : runF C d m_PL_told (181, [some (.ref a0), l1], [], σ) = bk C d m_PL_told 195 [some (.ref a0), l1] [] (C m_Lift_levelWith [.ref (dr (gR σ a0 1)), .int (gI σ (dr (gR σ (dr (gR σ a0 1)) 2)) 2)] σ) := by
  refine (r_aloadn 0 (show decode (zb m_PL_told) 181 = .ok (.aload_n 0, 1) from by decide +kernel) rfl).trans ?_
  refine (r_getR (show decode (zb m_PL_told) 182 = .ok (.getfield 19, 3) from by decide +kernel) rfl rfl h1 h2).trans ?_
  refine (r_aloadn 0 (show decode (zb m_PL_told) 185 = .ok (.aload_n 0, 1) from by decide +kernel) rfl).trans ?_
  refine (r_getR (show decode (zb m_PL_told) 186 = .ok (.getfield 19, 3) from by decide +kernel) rfl rfl h1 h2).trans ?_
  refine (r_getR (show decode (zb m_PL_told) 189 = .ok (.getfield 146, 3) from by decide +kernel) rfl rfl h3 h4).trans ?_
  refine (r_getI (show decode (zb m_PL_told) 192 = .ok (.getfield 199, 3) from by decide +kernel) rfl rfl h5).trans ?_
  exact r_virt (args := [.int (gI σ (dr (gR σ (dr (gR σ a0 1)) 2)) 2)]) (rest := []) (show decode (zb m_PL_told) 195 = .ok (.invokevirtual 212, 3) from by decide +kernel) rfl rfl rfl h3
theorem b_PL_told_198 {C : CF} {d : Nat} {σ : HP} {s0 : Int32} {l0 : Option Value} {l1 : Option Value}  : runF C d m_PL_told (198, [l0, l1], [.int s0], σ) = some (.inl (some (.int s0)), σ) := by
  exact r_iret (show decode (zb m_PL_told) 198 = .ok (.ireturn, 1) from by decide +kernel) rfl rfl
theorem e_PL_man {d : Nat} {σ : HP} {a0 : Nat} {x1 : Int32} {x2 : Int32} : callF (d + 1) m_PL_man [.ref a0, .int x1, .int x2] σ = runF (callF d) d m_PL_man (0, [some (.ref a0), some (.int x1), some (.int x2)], [], σ) := callF_in rfl rfl
theorem b_PL_man_0 {C : CF} {d : Nat} {σ : HP} {a0 : Nat} {x1 : Int32} {l2 : Option Value} (h1 : a0 % 64 = 11) : runF C d m_PL_man (0, [some (.ref a0), some (.int x1), l2], [], σ) = bk C d m_PL_man 2 [some (.ref a0), some (.int x1), l2] [] (C m_PL_needMan [.ref a0, .int x1] σ) := by
  refine (r_aloadn 0 (show decode (zb m_PL_man) 0 = .ok (.aload_n 0, 1) from by decide +kernel) rfl).trans ?_
  refine (r_iloadn 1 (show decode (zb m_PL_man) 1 = .ok (.iload_n 1, 1) from by decide +kernel) rfl).trans ?_
  exact r_virt (args := [.int x1]) (rest := []) (show decode (zb m_PL_man) 2 = .ok (.invokevirtual 215, 3) from by decide +kernel) rfl rfl rfl h1
theorem b_PL_man_5 {C : CF} {d : Nat} {σ : HP} {a0 : Nat} {x2 : Int32} {l1 : Option Value}  : runF C d m_PL_man (5, [some (.ref a0), l1, some (.int x2)], [], σ) = bkN C d m_PL_man 10 [some (.ref a0), l1, some (.int x2)] [.ref a0] (C m_PL_isWithin [.int x2, .int ((0 : Int32)), .int ((7 : Int32))] σ) := by
  refine (r_aloadn 0 (show decode (zb m_PL_man) 5 = .ok (.aload_n 0, 1) from by decide +kernel) rfl).trans ?_
  refine (r_iloadn 2 (show decode (zb m_PL_man) 6 = .ok (.iload_n 2, 1) from by decide +kernel) rfl).trans ?_
  refine (r_iconst (v := (0 : Int32)) (show decode (zb m_PL_man) 7 = .ok (.iconst (0), 1) from by decide +kernel) (by decide)).trans ?_
  refine (r_bipush (v := (7 : Int32)) (show decode (zb m_PL_man) 8 = .ok (.bipush (7), 2) from by decide +kernel) (by decide)).trans ?_
  exact r_stat (args := [.int x2, .int ((0 : Int32)), .int ((7 : Int32))]) (rest := [.ref a0]) (show decode (zb m_PL_man) 10 = .ok (.invokestatic 177, 3) from by decide +kernel) rfl (by decide) rfl rfl
theorem b_PL_man_13 {C : CF} {d : Nat} {σ : HP} {s0 : Int32} {r1 : Nat} {l0 : Option Value} {l1 : Option Value} {l2 : Option Value} (h1 : r1 % 64 = 11) : runF C d m_PL_man (13, [l0, l1, l2], [.int s0, .ref r1], σ) = bk C d m_PL_man 13 [l0, l1, l2] [] (C m_PL_needArgument [.ref r1, .int s0] σ) := by
  exact r_virt (args := [.int s0]) (rest := []) (show decode (zb m_PL_man) 13 = .ok (.invokevirtual 181, 3) from by decide +kernel) rfl rfl rfl h1
theorem b_PL_man_16 {C : CF} {d : Nat} {σ : HP} {x2 : Int32} {l0 : Option Value} {l1 : Option Value}  : runF C d m_PL_man (16, [l0, l1, some (.int x2)], [], σ) = if x2 = 0 then runF C d m_PL_man (60, [l0, l1, some (.int x2)], [], σ) else if x2 = 1 then runF C d m_PL_man (69, [l0, l1, some (.int x2)], [], σ) else if x2 = 2 then runF C d m_PL_man (84, [l0, l1, some (.int x2)], [], σ) else if x2 = 3 then runF C d m_PL_man (99, [l0, l1, some (.int x2)], [], σ) else if x2 = 4 then runF C d m_PL_man (114, [l0, l1, some (.int x2)], [], σ) else if x2 = 5 then runF C d m_PL_man (123, [l0, l1, some (.int x2)], [], σ) else if x2 = 6 then runF C d m_PL_man (140, [l0, l1, some (.int x2)], [], σ) else runF C d m_PL_man (155, [l0, l1, some (.int x2)], [], σ) := by
  refine (r_iloadn 2 (show decode (zb m_PL_man) 16 = .ok (.iload_n 2, 1) from by decide +kernel) rfl).trans ?_
  by_cases q0 : x2 = 0
  · rw [if_pos q0]
    exact r_table 60 (show decode (zb m_PL_man) 17 = .ok (.tableswitch (138) (0) (6) #[(43), (52), (67), (82), (97), (106), (123)], 43) from by decide +kernel) (tb_in q0 rfl rfl rfl)
  rw [if_neg q0]
  by_cases q1 : x2 = 1
  · rw [if_pos q1]
    exact r_table 69 (show decode (zb m_PL_man) 17 = .ok (.tableswitch (138) (0) (6) #[(43), (52), (67), (82), (97), (106), (123)], 43) from by decide +kernel) (tb_in q1 rfl rfl rfl)
  rw [if_neg q1]
  by_cases q2 : x2 = 2
  · rw [if_pos q2]
    exact r_table 84 (show decode (zb m_PL_man) 17 = .ok (.tableswitch (138) (0) (6) #[(43), (52), (67), (82), (97), (106), (123)], 43) from by decide +kernel) (tb_in q2 rfl rfl rfl)
  rw [if_neg q2]
  by_cases q3 : x2 = 3
  · rw [if_pos q3]
    exact r_table 99 (show decode (zb m_PL_man) 17 = .ok (.tableswitch (138) (0) (6) #[(43), (52), (67), (82), (97), (106), (123)], 43) from by decide +kernel) (tb_in q3 rfl rfl rfl)
  rw [if_neg q3]
  by_cases q4 : x2 = 4
  · rw [if_pos q4]
    exact r_table 114 (show decode (zb m_PL_man) 17 = .ok (.tableswitch (138) (0) (6) #[(43), (52), (67), (82), (97), (106), (123)], 43) from by decide +kernel) (tb_in q4 rfl rfl rfl)
  rw [if_neg q4]
  by_cases q5 : x2 = 5
  · rw [if_pos q5]
    exact r_table 123 (show decode (zb m_PL_man) 17 = .ok (.tableswitch (138) (0) (6) #[(43), (52), (67), (82), (97), (106), (123)], 43) from by decide +kernel) (tb_in q5 rfl rfl rfl)
  rw [if_neg q5]
  by_cases q6 : x2 = 6
  · rw [if_pos q6]
    exact r_table 140 (show decode (zb m_PL_man) 17 = .ok (.tableswitch (138) (0) (6) #[(43), (52), (67), (82), (97), (106), (123)], 43) from by decide +kernel) (tb_in q6 rfl rfl rfl)
  rw [if_neg q6]
  have e0 : (Int32.toInt x2) ≠ 0 := ne_toInt q0
  have e1 : (Int32.toInt x2) ≠ 1 := ne_toInt q1
  have e2 : (Int32.toInt x2) ≠ 2 := ne_toInt q2
  have e3 : (Int32.toInt x2) ≠ 3 := ne_toInt q3
  have e4 : (Int32.toInt x2) ≠ 4 := ne_toInt q4
  have e5 : (Int32.toInt x2) ≠ 5 := ne_toInt q5
  have e6 : (Int32.toInt x2) ≠ 6 := ne_toInt q6
  exact r_table 155 (show decode (zb m_PL_man) 17 = .ok (.tableswitch (138) (0) (6) #[(43), (52), (67), (82), (97), (106), (123)], 43) from by decide +kernel) (tb_out (by omega) rfl)
theorem b_PL_man_60 {C : CF} {d : Nat} {σ : HP} {a0 : Nat} {x1 : Int32} {l2 : Option Value} (h1 : a0 % 64 = 11) (h2 : (gR σ a0 1).isSome = true) (h3 : (dr (gR σ a0 1)) % 64 = 5) : runF C d m_PL_man (60, [some (.ref a0), some (.int x1), l2], [], σ) = bk C d m_PL_man 65 [some (.ref a0), some (.int x1), l2] [] (C m_Lift_placeOf [.ref (dr (gR σ a0 1)), .int x1] σ) := by
  refine (r_aloadn 0 (show decode (zb m_PL_man) 60 = .ok (.aload_n 0, 1) from by decide +kernel) rfl).trans ?_
  refine (r_getR (show decode (zb m_PL_man) 61 = .ok (.getfield 19, 3) from by decide +kernel) rfl rfl h1 h2).trans ?_
  refine (r_iloadn 1 (show decode (zb m_PL_man) 64 = .ok (.iload_n 1, 1) from by decide +kernel) rfl).trans ?_
  exact r_virt (args := [.int x1]) (rest := []) (show decode (zb m_PL_man) 65 = .ok (.invokevirtual 218, 3) from by decide +kernel) rfl rfl rfl h3
theorem b_PL_man_68 {C : CF} {d : Nat} {σ : HP} {s0 : Int32} {l0 : Option Value} {l1 : Option Value} {l2 : Option Value}  : runF C d m_PL_man (68, [l0, l1, l2], [.int s0], σ) = some (.inl (some (.int s0)), σ) := by
  exact r_iret (show decode (zb m_PL_man) 68 = .ok (.ireturn, 1) from by decide +kernel) rfl rfl
theorem b_PL_man_69 {C : CF} {d : Nat} {σ : HP} {a0 : Nat} {x1 : Int32} {l2 : Option Value} (h1 : a0 % 64 = 11) (h2 : (gR σ a0 1).isSome = true) (h3 : (dr (gR σ a0 1)) % 64 = 5) (h4 : (gR σ (dr (gR σ a0 1)) 0).isSome = true) (h5 : (dr (gR σ (dr (gR σ a0 1)) 0)) % 64 = 2) (h6 : (gR σ (dr (gR σ (dr (gR σ a0 1)) 0)) 5).isSome = true) : runF C d m_PL_man (69, [some (.ref a0), some (.int x1), l2], [], σ) = bkN C d m_PL_man 80 [some (.ref a0), some (.int x1), l2] [] (C m_PL_at [.ref (dr (gR σ (dr (gR σ (dr (gR σ a0 1)) 0)) 5)), .int x1] σ) := by
  refine (r_aloadn 0 (show decode (zb m_PL_man) 69 = .ok (.aload_n 0, 1) from by decide +kernel) rfl).trans ?_
  refine (r_getR (show decode (zb m_PL_man) 70 = .ok (.getfield 19, 3) from by decide +kernel) rfl rfl h1 h2).trans ?_
  refine (r_getR (show decode (zb m_PL_man) 73 = .ok (.getfield 138, 3) from by decide +kernel) rfl rfl h3 h4).trans ?_
  refine (r_getR (show decode (zb m_PL_man) 76 = .ok (.getfield 221, 3) from by decide +kernel) rfl rfl h5 h6).trans ?_
  refine (r_iloadn 1 (show decode (zb m_PL_man) 79 = .ok (.iload_n 1, 1) from by decide +kernel) rfl).trans ?_
  exact r_stat (args := [.ref (dr (gR σ (dr (gR σ (dr (gR σ a0 1)) 0)) 5)), .int x1]) (rest := []) (show decode (zb m_PL_man) 80 = .ok (.invokestatic 225, 3) from by decide +kernel) rfl (by decide) rfl rfl
theorem b_PL_man_83 {C : CF} {d : Nat} {σ : HP} {s0 : Int32} {l0 : Option Value} {l1 : Option Value} {l2 : Option Value}  : runF C d m_PL_man (83, [l0, l1, l2], [.int s0], σ) = some (.inl (some (.int s0)), σ) := by
  exact r_iret (show decode (zb m_PL_man) 83 = .ok (.ireturn, 1) from by decide +kernel) rfl rfl
theorem b_PL_man_84 {C : CF} {d : Nat} {σ : HP} {a0 : Nat} {x1 : Int32} {l2 : Option Value} (h1 : a0 % 64 = 11) (h2 : (gR σ a0 1).isSome = true) (h3 : (dr (gR σ a0 1)) % 64 = 5) (h4 : (gR σ (dr (gR σ a0 1)) 0).isSome = true) (h5 : (dr (gR σ (dr (gR σ a0 1)) 0)) % 64 = 2) (h6 : (gR σ (dr (gR σ (dr (gR σ a0 1)) 0)) 6).isSome = true) : runF C d m_PL_man (84, [some (.ref a0), some (.int x1), l2], [], σ) = bkN C d m_PL_man 95 [some (.ref a0), some (.int x1), l2] [] (C m_PL_at [.ref (dr (gR σ (dr (gR σ (dr (gR σ a0 1)) 0)) 6)), .int x1] σ) := by
  refine (r_aloadn 0 (show decode (zb m_PL_man) 84 = .ok (.aload_n 0, 1) from by decide +kernel) rfl).trans ?_
  refine (r_getR (show decode (zb m_PL_man) 85 = .ok (.getfield 19, 3) from by decide +kernel) rfl rfl h1 h2).trans ?_
  refine (r_getR (show decode (zb m_PL_man) 88 = .ok (.getfield 138, 3) from by decide +kernel) rfl rfl h3 h4).trans ?_
  refine (r_getR (show decode (zb m_PL_man) 91 = .ok (.getfield 229, 3) from by decide +kernel) rfl rfl h5 h6).trans ?_
  refine (r_iloadn 1 (show decode (zb m_PL_man) 94 = .ok (.iload_n 1, 1) from by decide +kernel) rfl).trans ?_
  exact r_stat (args := [.ref (dr (gR σ (dr (gR σ (dr (gR σ a0 1)) 0)) 6)), .int x1]) (rest := []) (show decode (zb m_PL_man) 95 = .ok (.invokestatic 225, 3) from by decide +kernel) rfl (by decide) rfl rfl
theorem b_PL_man_98 {C : CF} {d : Nat} {σ : HP} {s0 : Int32} {l0 : Option Value} {l1 : Option Value} {l2 : Option Value}  : runF C d m_PL_man (98, [l0, l1, l2], [.int s0], σ) = some (.inl (some (.int s0)), σ) := by
  exact r_iret (show decode (zb m_PL_man) 98 = .ok (.ireturn, 1) from by decide +kernel) rfl rfl
theorem b_PL_man_99 {C : CF} {d : Nat} {σ : HP} {a0 : Nat} {x1 : Int32} {l2 : Option Value} (h1 : a0 % 64 = 11) (h2 : (gR σ a0 1).isSome = true) (h3 : (dr (gR σ a0 1)) % 64 = 5) (h4 : (gR σ (dr (gR σ a0 1)) 2).isSome = true) (h5 : (dr (gR σ (dr (gR σ a0 1)) 2)) % 64 = 1) (h6 : (gR σ (dr (gR σ (dr (gR σ a0 1)) 2)) 5).isSome = true) : runF C d m_PL_man (99, [some (.ref a0), some (.int x1), l2], [], σ) = bkN C d m_PL_man 110 [some (.ref a0), some (.int x1), l2] [] (C m_PL_at [.ref (dr (gR σ (dr (gR σ (dr (gR σ a0 1)) 2)) 5)), .int x1] σ) := by
  refine (r_aloadn 0 (show decode (zb m_PL_man) 99 = .ok (.aload_n 0, 1) from by decide +kernel) rfl).trans ?_
  refine (r_getR (show decode (zb m_PL_man) 100 = .ok (.getfield 19, 3) from by decide +kernel) rfl rfl h1 h2).trans ?_
  refine (r_getR (show decode (zb m_PL_man) 103 = .ok (.getfield 146, 3) from by decide +kernel) rfl rfl h3 h4).trans ?_
  refine (r_getR (show decode (zb m_PL_man) 106 = .ok (.getfield 232, 3) from by decide +kernel) rfl rfl h5 h6).trans ?_
  refine (r_iloadn 1 (show decode (zb m_PL_man) 109 = .ok (.iload_n 1, 1) from by decide +kernel) rfl).trans ?_
  exact r_stat (args := [.ref (dr (gR σ (dr (gR σ (dr (gR σ a0 1)) 2)) 5)), .int x1]) (rest := []) (show decode (zb m_PL_man) 110 = .ok (.invokestatic 225, 3) from by decide +kernel) rfl (by decide) rfl rfl
theorem b_PL_man_113 {C : CF} {d : Nat} {σ : HP} {s0 : Int32} {l0 : Option Value} {l1 : Option Value} {l2 : Option Value}  : runF C d m_PL_man (113, [l0, l1, l2], [.int s0], σ) = some (.inl (some (.int s0)), σ) := by
  exact r_iret (show decode (zb m_PL_man) 113 = .ok (.ireturn, 1) from by decide +kernel) rfl rfl
theorem b_PL_man_114 {C : CF} {d : Nat} {σ : HP} {a0 : Nat} {x1 : Int32} {l2 : Option Value} (h1 : a0 % 64 = 11) (h2 : (gR σ a0 1).isSome = true) (h3 : (dr (gR σ a0 1)) % 64 = 5) : runF C d m_PL_man (114, [some (.ref a0), some (.int x1), l2], [], σ) = bk C d m_PL_man 119 [some (.ref a0), some (.int x1), l2] [] (C m_Lift_heavyOf [.ref (dr (gR σ a0 1)), .int x1] σ) := by
  refine (r_aloadn 0 (show decode (zb m_PL_man) 114 = .ok (.aload_n 0, 1) from by decide +kernel) rfl).trans ?_
  refine (r_getR (show decode (zb m_PL_man) 115 = .ok (.getfield 19, 3) from by decide +kernel) rfl rfl h1 h2).trans ?_
  refine (r_iloadn 1 (show decode (zb m_PL_man) 118 = .ok (.iload_n 1, 1) from by decide +kernel) rfl).trans ?_
  exact r_virt (args := [.int x1]) (rest := []) (show decode (zb m_PL_man) 119 = .ok (.invokevirtual 235, 3) from by decide +kernel) rfl rfl rfl h3
theorem b_PL_man_122 {C : CF} {d : Nat} {σ : HP} {s0 : Int32} {l0 : Option Value} {l1 : Option Value} {l2 : Option Value}  : runF C d m_PL_man (122, [l0, l1, l2], [.int s0], σ) = some (.inl (some (.int s0)), σ) := by
  exact r_iret (show decode (zb m_PL_man) 122 = .ok (.ireturn, 1) from by decide +kernel) rfl rfl
theorem b_PL_man_123 {C : CF} {d : Nat} {σ : HP} {a0 : Nat} {x1 : Int32} {l2 : Option Value} (h1 : a0 % 64 = 11) (h2 : (gR σ a0 1).isSome = true) (h3 : (dr (gR σ a0 1)) % 64 = 5) : runF C d m_PL_man (123, [some (.ref a0), some (.int x1), l2], [], σ) = bk C d m_PL_man 128 [some (.ref a0), some (.int x1), l2] [] (C m_Lift_isInside [.ref (dr (gR σ a0 1)), .int x1] σ) := by
  refine (r_aloadn 0 (show decode (zb m_PL_man) 123 = .ok (.aload_n 0, 1) from by decide +kernel) rfl).trans ?_
  refine (r_getR (show decode (zb m_PL_man) 124 = .ok (.getfield 19, 3) from by decide +kernel) rfl rfl h1 h2).trans ?_
  refine (r_iloadn 1 (show decode (zb m_PL_man) 127 = .ok (.iload_n 1, 1) from by decide +kernel) rfl).trans ?_
  exact r_virt (args := [.int x1]) (rest := []) (show decode (zb m_PL_man) 128 = .ok (.invokevirtual 238, 3) from by decide +kernel) rfl rfl rfl h3
theorem b_PL_man_131 {C : CF} {d : Nat} {σ : HP} {s0 : Int32} {l0 : Option Value} {l1 : Option Value} {l2 : Option Value}  : runF C d m_PL_man (131, [l0, l1, l2], [.int s0], σ) = if s0 = 0 then runF C d m_PL_man (138, [l0, l1, l2], [], σ) else runF C d m_PL_man (134, [l0, l1, l2], [], σ) := by
  exact r_if_eq 138 (show decode (zb m_PL_man) 131 = .ok (.ifCond .eq (7), 3) from by decide +kernel) rfl
theorem b_PL_man_134 {C : CF} {d : Nat} {σ : HP} {l0 : Option Value} {l1 : Option Value} {l2 : Option Value}  : runF C d m_PL_man (134, [l0, l1, l2], [], σ) = runF C d m_PL_man (139, [l0, l1, l2], [.int ((1 : Int32))], σ) := by
  refine (r_iconst (v := (1 : Int32)) (show decode (zb m_PL_man) 134 = .ok (.iconst (1), 1) from by decide +kernel) (by decide)).trans ?_
  exact r_goto 139 (show decode (zb m_PL_man) 135 = .ok (.goto (4), 3) from by decide +kernel) rfl
theorem b_PL_man_138 {C : CF} {d : Nat} {σ : HP} {l0 : Option Value} {l1 : Option Value} {l2 : Option Value}  : runF C d m_PL_man (138, [l0, l1, l2], [], σ) = runF C d m_PL_man (139, [l0, l1, l2], [.int ((0 : Int32))], σ) := by
  exact r_iconst (v := (0 : Int32)) (show decode (zb m_PL_man) 138 = .ok (.iconst (0), 1) from by decide +kernel) (by decide)
theorem b_PL_man_139 {C : CF} {d : Nat} {σ : HP} {s0 : Int32} {l0 : Option Value} {l1 : Option Value} {l2 : Option Value}  : runF C d m_PL_man (139, [l0, l1, l2], [.int s0], σ) = some (.inl (some (.int s0)), σ) := by
  exact r_iret (show decode (zb m_PL_man) 139 = .ok (.ireturn, 1) from by decide +kernel) rfl rfl
theorem b_PL_man_140 {C : CF} {d : Nat} {σ : HP} {a0 : Nat} {x1 : Int32} {l2 : Option Value} (h1 : a0 % 64 = 11) (h2 : (gR σ a0 1).isSome = true) (h3 : (dr (gR σ a0 1)) % 64 = 5) (h4 : (gR σ (dr (gR σ a0 1)) 2).isSome = true) (h5 : (dr (gR σ (dr (gR σ a0 1)) 2)) % 64 = 1) (h6 : (gR σ (dr (gR σ (dr (gR σ a0 1)) 2)) 6).isSome = true) : runF C d m_PL_man (140, [some (.ref a0), some (.int x1), l2], [], σ) = bkN C d m_PL_man 151 [some (.ref a0), some (.int x1), l2] [] (C m_PL_at [.ref (dr (gR σ (dr (gR σ (dr (gR σ a0 1)) 2)) 6)), .int x1] σ) := by
  refine (r_aloadn 0 (show decode (zb m_PL_man) 140 = .ok (.aload_n 0, 1) from by decide +kernel) rfl).trans ?_
  refine (r_getR (show decode (zb m_PL_man) 141 = .ok (.getfield 19, 3) from by decide +kernel) rfl rfl h1 h2).trans ?_
  refine (r_getR (show decode (zb m_PL_man) 144 = .ok (.getfield 146, 3) from by decide +kernel) rfl rfl h3 h4).trans ?_
  refine (r_getR (show decode (zb m_PL_man) 147 = .ok (.getfield 242, 3) from by decide +kernel) rfl rfl h5 h6).trans ?_
  refine (r_iloadn 1 (show decode (zb m_PL_man) 150 = .ok (.iload_n 1, 1) from by decide +kernel) rfl).trans ?_
  exact r_stat (args := [.ref (dr (gR σ (dr (gR σ (dr (gR σ a0 1)) 2)) 6)), .int x1]) (rest := []) (show decode (zb m_PL_man) 151 = .ok (.invokestatic 225, 3) from by decide +kernel) rfl (by decide) rfl rfl
theorem b_PL_man_154 {C : CF} {d : Nat} {σ : HP} {s0 : Int32} {l0 : Option Value} {l1 : Option Value} {l2 : Option Value}  : runF C d m_PL_man (154, [l0, l1, l2], [.int s0], σ) = some (.inl (some (.int s0)), σ) := by
  exact r_iret (show decode (zb m_PL_man) 154 = .ok (.ireturn, 1) from by decide +kernel) rfl rfl
theorem b_PL_man_155 {C : CF} {d : Nat} {σ : HP} {a0 : Nat} {x1 : Int32} {l2 : Option Value} (h1 : a0 % 64 = 11) (h2 : (gR σ a0 1).isSome = true) (h3 : (dr (gR σ a0 1)) % 64 = 5) : runF C d m_PL_man (155, [some (.ref a0), some (.int x1), l2], [], σ) = bk C d m_PL_man 160 [some (.ref a0), some (.int x1), l2] [] (C m_Lift_liesTo [.ref (dr (gR σ a0 1)), .int x1] σ) := by
  refine (r_aloadn 0 (show decode (zb m_PL_man) 155 = .ok (.aload_n 0, 1) from by decide +kernel) rfl).trans ?_
  refine (r_getR (show decode (zb m_PL_man) 156 = .ok (.getfield 19, 3) from by decide +kernel) rfl rfl h1 h2).trans ?_
  refine (r_iloadn 1 (show decode (zb m_PL_man) 159 = .ok (.iload_n 1, 1) from by decide +kernel) rfl).trans ?_
  exact r_virt (args := [.int x1]) (rest := []) (show decode (zb m_PL_man) 160 = .ok (.invokevirtual 245, 3) from by decide +kernel) rfl rfl rfl h3
theorem b_PL_man_163 {C : CF} {d : Nat} {σ : HP} {s0 : Int32} {l0 : Option Value} {l1 : Option Value} {l2 : Option Value}  : runF C d m_PL_man (163, [l0, l1, l2], [.int s0], σ) = some (.inl (some (.int s0)), σ) := by
  exact r_iret (show decode (zb m_PL_man) 163 = .ok (.ireturn, 1) from by decide +kernel) rfl rfl
theorem e_PL_needMan {d : Nat} {σ : HP} {a0 : Nat} {x1 : Int32} : callF (d + 1) m_PL_needMan [.ref a0, .int x1] σ = runF (callF d) d m_PL_needMan (0, [some (.ref a0), some (.int x1)], [], σ) := callF_in rfl rfl
theorem b_PL_needMan_0 {C : CF} {d : Nat} {σ : HP} {a0 : Nat} {x1 : Int32} (h1 : a0 % 64 = 11) (h2 : (gR σ a0 1).isSome = true) (h3 : (dr (gR σ a0 1)) % 64 = 5) (h4 : (gR σ (dr (gR σ a0 1)) 0).isSome = true) (h5 : (dr (gR σ (dr (gR σ a0 1)) 0)) % 64 = 2) : runF C d m_PL_needMan (0, [some (.ref a0), some (.int x1)], [], σ) = bkN C d m_PL_needMan 15 [some (.ref a0), some (.int x1)] [.ref a0] (C m_PL_isWithin [.int x1, .int ((0 : Int32)), .int ((gI σ (dr (gR σ (dr (gR σ a0 1)) 0)) 1) - (1 : Int32))] σ) := by
  refine (r_aloadn 0 (show decode (zb m_PL_needMan) 0 = .ok (.aload_n 0, 1) from by decide +kernel) rfl).trans ?_
  refine (r_iloadn 1 (show decode (zb m_PL_needMan) 1 = .ok (.iload_n 1, 1) from by decide +kernel) rfl).trans ?_
  refine (r_iconst (v := (0 : Int32)) (show decode (zb m_PL_needMan) 2 = .ok (.iconst (0), 1) from by decide +kernel) (by decide)).trans ?_
  refine (r_aloadn 0 (show decode (zb m_PL_needMan) 3 = .ok (.aload_n 0, 1) from by decide +kernel) rfl).trans ?_
  refine (r_getR (show decode (zb m_PL_needMan) 4 = .ok (.getfield 19, 3) from by decide +kernel) rfl rfl h1 h2).trans ?_
  refine (r_getR (show decode (zb m_PL_needMan) 7 = .ok (.getfield 138, 3) from by decide +kernel) rfl rfl h3 h4).trans ?_
  refine (r_getI (show decode (zb m_PL_needMan) 10 = .ok (.getfield 116, 3) from by decide +kernel) rfl rfl h5).trans ?_
  refine (r_iconst (v := (1 : Int32)) (show decode (zb m_PL_needMan) 13 = .ok (.iconst (1), 1) from by decide +kernel) (by decide)).trans ?_
  refine (r_isub (show decode (zb m_PL_needMan) 14 = .ok (.isub, 1) from by decide +kernel)).trans ?_
  exact r_stat (args := [.int x1, .int ((0 : Int32)), .int ((gI σ (dr (gR σ (dr (gR σ a0 1)) 0)) 1) - (1 : Int32))]) (rest := [.ref a0]) (show decode (zb m_PL_needMan) 15 = .ok (.invokestatic 177, 3) from by decide +kernel) rfl (by decide) rfl rfl
theorem b_PL_needMan_18 {C : CF} {d : Nat} {σ : HP} {s0 : Int32} {r1 : Nat} {l0 : Option Value} {l1 : Option Value} (h1 : r1 % 64 = 11) : runF C d m_PL_needMan (18, [l0, l1], [.int s0, .ref r1], σ) = bk C d m_PL_needMan 18 [l0, l1] [] (C m_PL_needSomebody [.ref r1, .int s0] σ) := by
  exact r_virt (args := [.int s0]) (rest := []) (show decode (zb m_PL_needMan) 18 = .ok (.invokevirtual 400, 3) from by decide +kernel) rfl rfl rfl h1
theorem b_PL_needMan_21 {C : CF} {d : Nat} {σ : HP} {l0 : Option Value} {l1 : Option Value}  : runF C d m_PL_needMan (21, [l0, l1], [], σ) = some (.inl none, σ) := by
  exact r_vret (show decode (zb m_PL_needMan) 21 = .ok (.return_, 1) from by decide +kernel) rfl
theorem e_PL_needSomebody {d : Nat} {σ : HP} {a0 : Nat} {x1 : Int32} : callF (d + 1) m_PL_needSomebody [.ref a0, .int x1] σ = runF (callF d) d m_PL_needSomebody (0, [some (.ref a0), some (.int x1)], [], σ) := callF_in rfl rfl
theorem b_PL_needSomebody_0 {C : CF} {d : Nat} {σ : HP} {x1 : Int32} {l0 : Option Value}  : runF C d m_PL_needSomebody (0, [l0, some (.int x1)], [], σ) = if ¬ x1 = 0 then runF C d m_PL_needSomebody (25, [l0, some (.int x1)], [], σ) else runF C d m_PL_needSomebody (4, [l0, some (.int x1)], [], σ) := by
  refine (r_iloadn 1 (show decode (zb m_PL_needSomebody) 0 = .ok (.iload_n 1, 1) from by decide +kernel) rfl).trans ?_
  exact r_if_ne 25 (show decode (zb m_PL_needSomebody) 1 = .ok (.ifCond .ne (24), 3) from by decide +kernel) rfl
theorem b_PL_needSomebody_4 {C : CF} {d : Nat} {σ : HP} {a0 : Nat} {l1 : Option Value} (h1 : a0 % 64 = 11) (h2 : 20 ≤ d) : runF C d m_PL_needSomebody (4, [some (.ref a0), l1], [], σ) = some (.inr 0, hA (wI σ a0 13 ((gI σ a0 13) + (1 : Int32))) 63 6) := by
  refine (r_aloadn 0 (show decode (zb m_PL_needSomebody) 4 = .ok (.aload_n 0, 1) from by decide +kernel) rfl).trans ?_
  refine (r_dupR (show decode (zb m_PL_needSomebody) 5 = .ok (.dup, 1) from by decide +kernel)).trans ?_
  refine (r_getI (show decode (zb m_PL_needSomebody) 6 = .ok (.getfield 81, 3) from by decide +kernel) rfl rfl h1).trans ?_
  refine (r_iconst (v := (1 : Int32)) (show decode (zb m_PL_needSomebody) 9 = .ok (.iconst (1), 1) from by decide +kernel) (by decide)).trans ?_
  refine (r_iadd (show decode (zb m_PL_needSomebody) 10 = .ok (.iadd, 1) from by decide +kernel)).trans ?_
  refine (r_putI (show decode (zb m_PL_needSomebody) 11 = .ok (.putfield 81, 3) from by decide +kernel) rfl rfl rfl h1).trans ?_
  exact r_thr (x := 0) (show decode (zb m_PL_needSomebody) 14 = .ok (.new 403, 3) from by decide +kernel) rfl rfl rfl (show decode (zb m_PL_needSomebody) 17 = .ok (.dup, 1) from by decide +kernel) (show decode (zb m_PL_needSomebody) 18 = .ok (.ldc_w 405, 3) from by decide +kernel) (show decode (zb m_PL_needSomebody) 21 = .ok (.invokespecial 407, 3) from by decide +kernel) (show decode (zb m_PL_needSomebody) 24 = .ok (.athrow, 1) from by decide +kernel) h2
theorem b_PL_needSomebody_25 {C : CF} {d : Nat} {σ : HP} {l0 : Option Value} {l1 : Option Value}  : runF C d m_PL_needSomebody (25, [l0, l1], [], σ) = some (.inl none, σ) := by
  exact r_vret (show decode (zb m_PL_needSomebody) 25 = .ok (.return_, 1) from by decide +kernel) rfl
theorem e_PL_card {d : Nat} {σ : HP} {a0 : Nat} {x1 : Int32} {x2 : Int32} : callF (d + 1) m_PL_card [.ref a0, .int x1, .int x2] σ = runF (callF d) d m_PL_card (0, [some (.ref a0), some (.int x1), some (.int x2)], [], σ) := callF_in rfl rfl
theorem b_PL_card_0 {C : CF} {d : Nat} {σ : HP} {a0 : Nat} {x1 : Int32} {l2 : Option Value} (h1 : a0 % 64 = 11) : runF C d m_PL_card (0, [some (.ref a0), some (.int x1), l2], [], σ) = bk C d m_PL_card 2 [some (.ref a0), some (.int x1), l2] [] (C m_PL_needCard [.ref a0, .int x1] σ) := by
  refine (r_aloadn 0 (show decode (zb m_PL_card) 0 = .ok (.aload_n 0, 1) from by decide +kernel) rfl).trans ?_
  refine (r_iloadn 1 (show decode (zb m_PL_card) 1 = .ok (.iload_n 1, 1) from by decide +kernel) rfl).trans ?_
  exact r_virt (args := [.int x1]) (rest := []) (show decode (zb m_PL_card) 2 = .ok (.invokevirtual 248, 3) from by decide +kernel) rfl rfl rfl h1
theorem b_PL_card_5 {C : CF} {d : Nat} {σ : HP} {a0 : Nat} {x2 : Int32} {l1 : Option Value}  : runF C d m_PL_card (5, [some (.ref a0), l1, some (.int x2)], [], σ) = bkN C d m_PL_card 9 [some (.ref a0), l1, some (.int x2)] [.ref a0] (C m_PL_isWithin [.int x2, .int ((0 : Int32)), .int ((2 : Int32))] σ) := by
  refine (r_aloadn 0 (show decode (zb m_PL_card) 5 = .ok (.aload_n 0, 1) from by decide +kernel) rfl).trans ?_
  refine (r_iloadn 2 (show decode (zb m_PL_card) 6 = .ok (.iload_n 2, 1) from by decide +kernel) rfl).trans ?_
  refine (r_iconst (v := (0 : Int32)) (show decode (zb m_PL_card) 7 = .ok (.iconst (0), 1) from by decide +kernel) (by decide)).trans ?_
  refine (r_iconst (v := (2 : Int32)) (show decode (zb m_PL_card) 8 = .ok (.iconst (2), 1) from by decide +kernel) (by decide)).trans ?_
  exact r_stat (args := [.int x2, .int ((0 : Int32)), .int ((2 : Int32))]) (rest := [.ref a0]) (show decode (zb m_PL_card) 9 = .ok (.invokestatic 177, 3) from by decide +kernel) rfl (by decide) rfl rfl
theorem b_PL_card_12 {C : CF} {d : Nat} {σ : HP} {s0 : Int32} {r1 : Nat} {l0 : Option Value} {l1 : Option Value} {l2 : Option Value} (h1 : r1 % 64 = 11) : runF C d m_PL_card (12, [l0, l1, l2], [.int s0, .ref r1], σ) = bk C d m_PL_card 12 [l0, l1, l2] [] (C m_PL_needArgument [.ref r1, .int s0] σ) := by
  exact r_virt (args := [.int s0]) (rest := []) (show decode (zb m_PL_card) 12 = .ok (.invokevirtual 181, 3) from by decide +kernel) rfl rfl rfl h1
theorem b_PL_card_15 {C : CF} {d : Nat} {σ : HP} {x2 : Int32} {l0 : Option Value} {l1 : Option Value}  : runF C d m_PL_card (15, [l0, l1, some (.int x2)], [], σ) = if x2 = 0 then runF C d m_PL_card (44, [l0, l1, some (.int x2)], [], σ) else if x2 = 1 then runF C d m_PL_card (59, [l0, l1, some (.int x2)], [], σ) else runF C d m_PL_card (74, [l0, l1, some (.int x2)], [], σ) := by
  refine (r_iloadn 2 (show decode (zb m_PL_card) 15 = .ok (.iload_n 2, 1) from by decide +kernel) rfl).trans ?_
  by_cases q0 : x2 = 0
  · rw [if_pos q0]
    exact r_look 44 (show decode (zb m_PL_card) 16 = .ok (.lookupswitch (58) #[((0), (28)), ((1), (43))], 28) from by decide +kernel) (lk_any rfl (by rw [q0]; rfl))
  rw [if_neg q0]
  by_cases q1 : x2 = 1
  · rw [if_pos q1]
    exact r_look 59 (show decode (zb m_PL_card) 16 = .ok (.lookupswitch (58) #[((0), (28)), ((1), (43))], 28) from by decide +kernel) (lk_any rfl (by rw [q1]; rfl))
  rw [if_neg q1]
  have e0 : (Int32.toInt x2) ≠ 0 := ne_toInt q0
  have e1 : (Int32.toInt x2) ≠ 1 := ne_toInt q1
  exact r_look 74 (show decode (zb m_PL_card) 16 = .ok (.lookupswitch (58) #[((0), (28)), ((1), (43))], 28) from by decide +kernel) (lk_any rfl (by simp [Op.lookupswitch.offset, e0, (Ne.symm e0), e1, (Ne.symm e1)]))
theorem b_PL_card_44 {C : CF} {d : Nat} {σ : HP} {a0 : Nat} {x1 : Int32} {l2 : Option Value} (h1 : a0 % 64 = 11) (h2 : (gR σ a0 1).isSome = true) (h3 : (dr (gR σ a0 1)) % 64 = 5) (h4 : (gR σ (dr (gR σ a0 1)) 0).isSome = true) (h5 : (dr (gR σ (dr (gR σ a0 1)) 0)) % 64 = 2) (h6 : (gR σ (dr (gR σ (dr (gR σ a0 1)) 0)) 7).isSome = true) : runF C d m_PL_card (44, [some (.ref a0), some (.int x1), l2], [], σ) = bkN C d m_PL_card 55 [some (.ref a0), some (.int x1), l2] [] (C m_PL_at [.ref (dr (gR σ (dr (gR σ (dr (gR σ a0 1)) 0)) 7)), .int x1] σ) := by
  refine (r_aloadn 0 (show decode (zb m_PL_card) 44 = .ok (.aload_n 0, 1) from by decide +kernel) rfl).trans ?_
  refine (r_getR (show decode (zb m_PL_card) 45 = .ok (.getfield 19, 3) from by decide +kernel) rfl rfl h1 h2).trans ?_
  refine (r_getR (show decode (zb m_PL_card) 48 = .ok (.getfield 138, 3) from by decide +kernel) rfl rfl h3 h4).trans ?_
  refine (r_getR (show decode (zb m_PL_card) 51 = .ok (.getfield 251, 3) from by decide +kernel) rfl rfl h5 h6).trans ?_
  refine (r_iloadn 1 (show decode (zb m_PL_card) 54 = .ok (.iload_n 1, 1) from by decide +kernel) rfl).trans ?_
  exact r_stat (args := [.ref (dr (gR σ (dr (gR σ (dr (gR σ a0 1)) 0)) 7)), .int x1]) (rest := []) (show decode (zb m_PL_card) 55 = .ok (.invokestatic 225, 3) from by decide +kernel) rfl (by decide) rfl rfl
theorem b_PL_card_58 {C : CF} {d : Nat} {σ : HP} {s0 : Int32} {l0 : Option Value} {l1 : Option Value} {l2 : Option Value}  : runF C d m_PL_card (58, [l0, l1, l2], [.int s0], σ) = some (.inl (some (.int s0)), σ) := by
  exact r_iret (show decode (zb m_PL_card) 58 = .ok (.ireturn, 1) from by decide +kernel) rfl rfl
theorem b_PL_card_59 {C : CF} {d : Nat} {σ : HP} {a0 : Nat} {x1 : Int32} {l2 : Option Value} (h1 : a0 % 64 = 11) (h2 : (gR σ a0 1).isSome = true) (h3 : (dr (gR σ a0 1)) % 64 = 5) (h4 : (gR σ (dr (gR σ a0 1)) 0).isSome = true) (h5 : (dr (gR σ (dr (gR σ a0 1)) 0)) % 64 = 2) (h6 : (gR σ (dr (gR σ (dr (gR σ a0 1)) 0)) 8).isSome = true) : runF C d m_PL_card (59, [some (.ref a0), some (.int x1), l2], [], σ) = bkN C d m_PL_card 70 [some (.ref a0), some (.int x1), l2] [] (C m_PL_at [.ref (dr (gR σ (dr (gR σ (dr (gR σ a0 1)) 0)) 8)), .int x1] σ) := by
  refine (r_aloadn 0 (show decode (zb m_PL_card) 59 = .ok (.aload_n 0, 1) from by decide +kernel) rfl).trans ?_
  refine (r_getR (show decode (zb m_PL_card) 60 = .ok (.getfield 19, 3) from by decide +kernel) rfl rfl h1 h2).trans ?_
  refine (r_getR (show decode (zb m_PL_card) 63 = .ok (.getfield 138, 3) from by decide +kernel) rfl rfl h3 h4).trans ?_
  refine (r_getR (show decode (zb m_PL_card) 66 = .ok (.getfield 254, 3) from by decide +kernel) rfl rfl h5 h6).trans ?_
  refine (r_iloadn 1 (show decode (zb m_PL_card) 69 = .ok (.iload_n 1, 1) from by decide +kernel) rfl).trans ?_
  exact r_stat (args := [.ref (dr (gR σ (dr (gR σ (dr (gR σ a0 1)) 0)) 8)), .int x1]) (rest := []) (show decode (zb m_PL_card) 70 = .ok (.invokestatic 225, 3) from by decide +kernel) rfl (by decide) rfl rfl
theorem b_PL_card_73 {C : CF} {d : Nat} {σ : HP} {s0 : Int32} {l0 : Option Value} {l1 : Option Value} {l2 : Option Value}  : runF C d m_PL_card (73, [l0, l1, l2], [.int s0], σ) = some (.inl (some (.int s0)), σ) := by
  exact r_iret (show decode (zb m_PL_card) 73 = .ok (.ireturn, 1) from by decide +kernel) rfl rfl
theorem b_PL_card_74 {C : CF} {d : Nat} {σ : HP} {a0 : Nat} {x1 : Int32} {l2 : Option Value} (h1 : a0 % 64 = 11) (h2 : (gR σ a0 1).isSome = true) (h3 : (dr (gR σ a0 1)) % 64 = 5) : runF C d m_PL_card (74, [some (.ref a0), some (.int x1), l2], [], σ) = bk C d m_PL_card 79 [some (.ref a0), some (.int x1), l2] [] (C m_Lift_heardByAll [.ref (dr (gR σ a0 1)), .int x1] σ) := by
  refine (r_aloadn 0 (show decode (zb m_PL_card) 74 = .ok (.aload_n 0, 1) from by decide +kernel) rfl).trans ?_
  refine (r_getR (show decode (zb m_PL_card) 75 = .ok (.getfield 19, 3) from by decide +kernel) rfl rfl h1 h2).trans ?_
  refine (r_iloadn 1 (show decode (zb m_PL_card) 78 = .ok (.iload_n 1, 1) from by decide +kernel) rfl).trans ?_
  exact r_virt (args := [.int x1]) (rest := []) (show decode (zb m_PL_card) 79 = .ok (.invokevirtual 257, 3) from by decide +kernel) rfl rfl rfl h3
theorem b_PL_card_82 {C : CF} {d : Nat} {σ : HP} {s0 : Int32} {l0 : Option Value} {l1 : Option Value} {l2 : Option Value}  : runF C d m_PL_card (82, [l0, l1, l2], [.int s0], σ) = some (.inl (some (.int s0)), σ) := by
  exact r_iret (show decode (zb m_PL_card) 82 = .ok (.ireturn, 1) from by decide +kernel) rfl rfl
theorem e_PL_needCard {d : Nat} {σ : HP} {a0 : Nat} {x1 : Int32} : callF (d + 1) m_PL_needCard [.ref a0, .int x1] σ = runF (callF d) d m_PL_needCard (0, [some (.ref a0), some (.int x1)], [], σ) := callF_in rfl rfl
theorem b_PL_needCard_0 {C : CF} {d : Nat} {σ : HP} {a0 : Nat} {x1 : Int32} (h1 : a0 % 64 = 11) (h2 : (gR σ a0 1).isSome = true) (h3 : (dr (gR σ a0 1)) % 64 = 5) (h4 : (gR σ (dr (gR σ a0 1)) 0).isSome = true) (h5 : (dr (gR σ (dr (gR σ a0 1)) 0)) % 64 = 2) : runF C d m_PL_needCard (0, [some (.ref a0), some (.int x1)], [], σ) = bkN C d m_PL_needCard 15 [some (.ref a0), some (.int x1)] [.ref a0] (C m_PL_isWithin [.int x1, .int ((0 : Int32)), .int ((gI σ (dr (gR σ (dr (gR σ a0 1)) 0)) 2) - (1 : Int32))] σ) := by
  refine (r_aloadn 0 (show decode (zb m_PL_needCard) 0 = .ok (.aload_n 0, 1) from by decide +kernel) rfl).trans ?_
  refine (r_iloadn 1 (show decode (zb m_PL_needCard) 1 = .ok (.iload_n 1, 1) from by decide +kernel) rfl).trans ?_
  refine (r_iconst (v := (0 : Int32)) (show decode (zb m_PL_needCard) 2 = .ok (.iconst (0), 1) from by decide +kernel) (by decide)).trans ?_
  refine (r_aloadn 0 (show decode (zb m_PL_needCard) 3 = .ok (.aload_n 0, 1) from by decide +kernel) rfl).trans ?_
  refine (r_getR (show decode (zb m_PL_needCard) 4 = .ok (.getfield 19, 3) from by decide +kernel) rfl rfl h1 h2).trans ?_
  refine (r_getR (show decode (zb m_PL_needCard) 7 = .ok (.getfield 138, 3) from by decide +kernel) rfl rfl h3 h4).trans ?_
  refine (r_getI (show decode (zb m_PL_needCard) 10 = .ok (.getfield 188, 3) from by decide +kernel) rfl rfl h5).trans ?_
  refine (r_iconst (v := (1 : Int32)) (show decode (zb m_PL_needCard) 13 = .ok (.iconst (1), 1) from by decide +kernel) (by decide)).trans ?_
  refine (r_isub (show decode (zb m_PL_needCard) 14 = .ok (.isub, 1) from by decide +kernel)).trans ?_
  exact r_stat (args := [.int x1, .int ((0 : Int32)), .int ((gI σ (dr (gR σ (dr (gR σ a0 1)) 0)) 2) - (1 : Int32))]) (rest := [.ref a0]) (show decode (zb m_PL_needCard) 15 = .ok (.invokestatic 177, 3) from by decide +kernel) rfl (by decide) rfl rfl
theorem b_PL_needCard_18 {C : CF} {d : Nat} {σ : HP} {s0 : Int32} {r1 : Nat} {l0 : Option Value} {l1 : Option Value} (h1 : r1 % 64 = 11) : runF C d m_PL_needCard (18, [l0, l1], [.int s0, .ref r1], σ) = bk C d m_PL_needCard 18 [l0, l1] [] (C m_PL_needSomebody [.ref r1, .int s0] σ) := by
  exact r_virt (args := [.int s0]) (rest := []) (show decode (zb m_PL_needCard) 18 = .ok (.invokevirtual 400, 3) from by decide +kernel) rfl rfl rfl h1
theorem b_PL_needCard_21 {C : CF} {d : Nat} {σ : HP} {l0 : Option Value} {l1 : Option Value}  : runF C d m_PL_needCard (21, [l0, l1], [], σ) = some (.inl none, σ) := by
  exact r_vret (show decode (zb m_PL_needCard) 21 = .ok (.return_, 1) from by decide +kernel) rfl
theorem e_PL_heard {d : Nat} {σ : HP} {a0 : Nat} {x1 : Int32} {x2 : Int32} : callF (d + 1) m_PL_heard [.ref a0, .int x1, .int x2] σ = runF (callF d) d m_PL_heard (0, [some (.ref a0), some (.int x1), some (.int x2)], [], σ) := callF_in rfl rfl
theorem b_PL_heard_0 {C : CF} {d : Nat} {σ : HP} {a0 : Nat} {x1 : Int32} {l2 : Option Value} (h1 : a0 % 64 = 11) : runF C d m_PL_heard (0, [some (.ref a0), some (.int x1), l2], [], σ) = bk C d m_PL_heard 2 [some (.ref a0), some (.int x1), l2] [] (C m_PL_needMan [.ref a0, .int x1] σ) := by
  refine (r_aloadn 0 (show decode (zb m_PL_heard) 0 = .ok (.aload_n 0, 1) from by decide +kernel) rfl).trans ?_
  refine (r_iloadn 1 (show decode (zb m_PL_heard) 1 = .ok (.iload_n 1, 1) from by decide +kernel) rfl).trans ?_
  exact r_virt (args := [.int x1]) (rest := []) (show decode (zb m_PL_heard) 2 = .ok (.invokevirtual 215, 3) from by decide +kernel) rfl rfl rfl h1
theorem b_PL_heard_5 {C : CF} {d : Nat} {σ : HP} {a0 : Nat} {x2 : Int32} {l1 : Option Value} (h1 : a0 % 64 = 11) : runF C d m_PL_heard (5, [some (.ref a0), l1, some (.int x2)], [], σ) = bk C d m_PL_heard 7 [some (.ref a0), l1, some (.int x2)] [] (C m_PL_needCard [.ref a0, .int x2] σ) := by
  refine (r_aloadn 0 (show decode (zb m_PL_heard) 5 = .ok (.aload_n 0, 1) from by decide +kernel) rfl).trans ?_
  refine (r_iloadn 2 (show decode (zb m_PL_heard) 6 = .ok (.iload_n 2, 1) from by decide +kernel) rfl).trans ?_
  exact r_virt (args := [.int x2]) (rest := []) (show decode (zb m_PL_heard) 7 = .ok (.invokevirtual 248, 3) from by decide +kernel) rfl rfl rfl h1
theorem b_PL_heard_10 {C : CF} {d : Nat} {σ : HP} {a0 : Nat} {x1 : Int32} {x2 : Int32} (h1 : a0 % 64 = 11) (h2 : (gR σ a0 1).isSome = true) (h3 : (dr (gR σ a0 1)) % 64 = 5) (h4 : (gR σ (dr (gR σ a0 1)) 2).isSome = true) (h5 : (dr (gR σ (dr (gR σ a0 1)) 2)) % 64 = 1) : runF C d m_PL_heard (10, [some (.ref a0), some (.int x1), some (.int x2)], [], σ) = bk C d m_PL_heard 19 [some (.ref a0), some (.int x1), some (.int x2)] [] (C m_Days_timesHeard [.ref (dr (gR σ (dr (gR σ a0 1)) 2)), .int x1, .int x2] σ) := by
  refine (r_aloadn 0 (show decode (zb m_PL_heard) 10 = .ok (.aload_n 0, 1) from by decide +kernel) rfl).trans ?_
  refine (r_getR (show decode (zb m_PL_heard) 11 = .ok (.getfield 19, 3) from by decide +kernel) rfl rfl h1 h2).trans ?_
  refine (r_getR (show decode (zb m_PL_heard) 14 = .ok (.getfield 146, 3) from by decide +kernel) rfl rfl h3 h4).trans ?_
  refine (r_iloadn 1 (show decode (zb m_PL_heard) 17 = .ok (.iload_n 1, 1) from by decide +kernel) rfl).trans ?_
  refine (r_iloadn 2 (show decode (zb m_PL_heard) 18 = .ok (.iload_n 2, 1) from by decide +kernel) rfl).trans ?_
  exact r_virt (args := [.int x1, .int x2]) (rest := []) (show decode (zb m_PL_heard) 19 = .ok (.invokevirtual 260, 3) from by decide +kernel) rfl rfl rfl h5
theorem b_PL_heard_22 {C : CF} {d : Nat} {σ : HP} {s0 : Int32} {l0 : Option Value} {l1 : Option Value} {l2 : Option Value}  : runF C d m_PL_heard (22, [l0, l1, l2], [.int s0], σ) = some (.inl (some (.int s0)), σ) := by
  exact r_iret (show decode (zb m_PL_heard) 22 = .ok (.ireturn, 1) from by decide +kernel) rfl rfl
theorem e_PL_swells {d : Nat} {σ : HP} {a0 : Nat} {x1 : Int32} {x2 : Int32} : callF (d + 1) m_PL_swells [.ref a0, .int x1, .int x2] σ = runF (callF d) d m_PL_swells (0, [some (.ref a0), some (.int x1), some (.int x2)], [], σ) := callF_in rfl rfl
theorem b_PL_swells_0 {C : CF} {d : Nat} {σ : HP} {a0 : Nat} {x1 : Int32} {l2 : Option Value} (h1 : a0 % 64 = 11) : runF C d m_PL_swells (0, [some (.ref a0), some (.int x1), l2], [], σ) = bk C d m_PL_swells 2 [some (.ref a0), some (.int x1), l2] [] (C m_PL_needMan [.ref a0, .int x1] σ) := by
  refine (r_aloadn 0 (show decode (zb m_PL_swells) 0 = .ok (.aload_n 0, 1) from by decide +kernel) rfl).trans ?_
  refine (r_iloadn 1 (show decode (zb m_PL_swells) 1 = .ok (.iload_n 1, 1) from by decide +kernel) rfl).trans ?_
  exact r_virt (args := [.int x1]) (rest := []) (show decode (zb m_PL_swells) 2 = .ok (.invokevirtual 215, 3) from by decide +kernel) rfl rfl rfl h1
theorem b_PL_swells_5 {C : CF} {d : Nat} {σ : HP} {a0 : Nat} {x2 : Int32} {l1 : Option Value} (h1 : a0 % 64 = 11) : runF C d m_PL_swells (5, [some (.ref a0), l1, some (.int x2)], [], σ) = bk C d m_PL_swells 7 [some (.ref a0), l1, some (.int x2)] [] (C m_PL_needCard [.ref a0, .int x2] σ) := by
  refine (r_aloadn 0 (show decode (zb m_PL_swells) 5 = .ok (.aload_n 0, 1) from by decide +kernel) rfl).trans ?_
  refine (r_iloadn 2 (show decode (zb m_PL_swells) 6 = .ok (.iload_n 2, 1) from by decide +kernel) rfl).trans ?_
  exact r_virt (args := [.int x2]) (rest := []) (show decode (zb m_PL_swells) 7 = .ok (.invokevirtual 248, 3) from by decide +kernel) rfl rfl rfl h1
theorem b_PL_swells_10 {C : CF} {d : Nat} {σ : HP} {a0 : Nat} {x1 : Int32} {x2 : Int32} (h1 : a0 % 64 = 11) (h2 : (gR σ a0 1).isSome = true) (h3 : (dr (gR σ a0 1)) % 64 = 5) : runF C d m_PL_swells (10, [some (.ref a0), some (.int x1), some (.int x2)], [], σ) = bk C d m_PL_swells 16 [some (.ref a0), some (.int x1), some (.int x2)] [] (C m_Lift_swellOf [.ref (dr (gR σ a0 1)), .int x1, .int x2] σ) := by
  refine (r_aloadn 0 (show decode (zb m_PL_swells) 10 = .ok (.aload_n 0, 1) from by decide +kernel) rfl).trans ?_
  refine (r_getR (show decode (zb m_PL_swells) 11 = .ok (.getfield 19, 3) from by decide +kernel) rfl rfl h1 h2).trans ?_
  refine (r_iloadn 1 (show decode (zb m_PL_swells) 14 = .ok (.iload_n 1, 1) from by decide +kernel) rfl).trans ?_
  refine (r_iloadn 2 (show decode (zb m_PL_swells) 15 = .ok (.iload_n 2, 1) from by decide +kernel) rfl).trans ?_
  exact r_virt (args := [.int x1, .int x2]) (rest := []) (show decode (zb m_PL_swells) 16 = .ok (.invokevirtual 264, 3) from by decide +kernel) rfl rfl rfl h3
theorem b_PL_swells_19 {C : CF} {d : Nat} {σ : HP} {s0 : Int32} {l0 : Option Value} {l1 : Option Value} {l2 : Option Value}  : runF C d m_PL_swells (19, [l0, l1, l2], [.int s0], σ) = some (.inl (some (.int s0)), σ) := by
  exact r_iret (show decode (zb m_PL_swells) 19 = .ok (.ireturn, 1) from by decide +kernel) rfl rfl
theorem e_PL_would {d : Nat} {σ : HP} {a0 : Nat} {x1 : Int32} {x2 : Int32} {x3 : Int32} {x4 : Int32} {x5 : Int32} {x6 : Int32} {x7 : Int32} {x8 : Int32} {x9 : Int32} : callF (d + 1) m_PL_would [.ref a0, .int x1, .int x2, .int x3, .int x4, .int x5, .int x6, .int x7, .int x8, .int x9] σ = runF (callF d) d m_PL_would (0, [some (.ref a0), some (.int x1), some (.int x2), some (.int x3), some (.int x4), some (.int x5), some (.int x6), some (.int x7), some (.int x8), some (.int x9)], [], σ) := callF_in rfl rfl
theorem b_PL_would_0 {C : CF} {d : Nat} {σ : HP} {a0 : Nat} {x1 : Int32} {l2 : Option Value} {l3 : Option Value} {l4 : Option Value} {l5 : Option Value} {l6 : Option Value} {l7 : Option Value} {l8 : Option Value} {l9 : Option Value}  : runF C d m_PL_would (0, [some (.ref a0), some (.int x1), l2, l3, l4, l5, l6, l7, l8, l9], [], σ) = bkN C d m_PL_would 5 [some (.ref a0), some (.int x1), l2, l3, l4, l5, l6, l7, l8, l9] [.ref a0] (C m_PL_isWithin [.int x1, .int ((1 : Int32)), .int ((20 : Int32))] σ) := by
  refine (r_aloadn 0 (show decode (zb m_PL_would) 0 = .ok (.aload_n 0, 1) from by decide +kernel) rfl).trans ?_
  refine (r_iloadn 1 (show decode (zb m_PL_would) 1 = .ok (.iload_n 1, 1) from by decide +kernel) rfl).trans ?_
  refine (r_iconst (v := (1 : Int32)) (show decode (zb m_PL_would) 2 = .ok (.iconst (1), 1) from by decide +kernel) (by decide)).trans ?_
  refine (r_bipush (v := (20 : Int32)) (show decode (zb m_PL_would) 3 = .ok (.bipush (20), 2) from by decide +kernel) (by decide)).trans ?_
  exact r_stat (args := [.int x1, .int ((1 : Int32)), .int ((20 : Int32))]) (rest := [.ref a0]) (show decode (zb m_PL_would) 5 = .ok (.invokestatic 177, 3) from by decide +kernel) rfl (by decide) rfl rfl
theorem b_PL_would_8 {C : CF} {d : Nat} {σ : HP} {s0 : Int32} {r1 : Nat} {l0 : Option Value} {l1 : Option Value} {l2 : Option Value} {l3 : Option Value} {l4 : Option Value} {l5 : Option Value} {l6 : Option Value} {l7 : Option Value} {l8 : Option Value} {l9 : Option Value} (h1 : r1 % 64 = 11) : runF C d m_PL_would (8, [l0, l1, l2, l3, l4, l5, l6, l7, l8, l9], [.int s0, .ref r1], σ) = bk C d m_PL_would 8 [l0, l1, l2, l3, l4, l5, l6, l7, l8, l9] [] (C m_PL_needArgument [.ref r1, .int s0] σ) := by
  exact r_virt (args := [.int s0]) (rest := []) (show decode (zb m_PL_would) 8 = .ok (.invokevirtual 181, 3) from by decide +kernel) rfl rfl rfl h1
theorem b_PL_would_11 {C : CF} {d : Nat} {σ : HP} {a0 : Nat} {x2 : Int32} {l1 : Option Value} {l3 : Option Value} {l4 : Option Value} {l5 : Option Value} {l6 : Option Value} {l7 : Option Value} {l8 : Option Value} {l9 : Option Value}  : runF C d m_PL_would (11, [some (.ref a0), l1, some (.int x2), l3, l4, l5, l6, l7, l8, l9], [], σ) = bkN C d m_PL_would 16 [some (.ref a0), l1, some (.int x2), l3, l4, l5, l6, l7, l8, l9] [.ref a0] (C m_PL_isWithin [.int x2, .int ((0 : Int32)), .int ((9 : Int32))] σ) := by
  refine (r_aloadn 0 (show decode (zb m_PL_would) 11 = .ok (.aload_n 0, 1) from by decide +kernel) rfl).trans ?_
  refine (r_iloadn 2 (show decode (zb m_PL_would) 12 = .ok (.iload_n 2, 1) from by decide +kernel) rfl).trans ?_
  refine (r_iconst (v := (0 : Int32)) (show decode (zb m_PL_would) 13 = .ok (.iconst (0), 1) from by decide +kernel) (by decide)).trans ?_
  refine (r_bipush (v := (9 : Int32)) (show decode (zb m_PL_would) 14 = .ok (.bipush (9), 2) from by decide +kernel) (by decide)).trans ?_
  exact r_stat (args := [.int x2, .int ((0 : Int32)), .int ((9 : Int32))]) (rest := [.ref a0]) (show decode (zb m_PL_would) 16 = .ok (.invokestatic 177, 3) from by decide +kernel) rfl (by decide) rfl rfl
theorem b_PL_would_19 {C : CF} {d : Nat} {σ : HP} {s0 : Int32} {r1 : Nat} {l0 : Option Value} {l1 : Option Value} {l2 : Option Value} {l3 : Option Value} {l4 : Option Value} {l5 : Option Value} {l6 : Option Value} {l7 : Option Value} {l8 : Option Value} {l9 : Option Value} (h1 : r1 % 64 = 11) : runF C d m_PL_would (19, [l0, l1, l2, l3, l4, l5, l6, l7, l8, l9], [.int s0, .ref r1], σ) = bk C d m_PL_would 19 [l0, l1, l2, l3, l4, l5, l6, l7, l8, l9] [] (C m_PL_needArgument [.ref r1, .int s0] σ) := by
  exact r_virt (args := [.int s0]) (rest := []) (show decode (zb m_PL_would) 19 = .ok (.invokevirtual 181, 3) from by decide +kernel) rfl rfl rfl h1
theorem b_PL_would_22 {C : CF} {d : Nat} {σ : HP} {a0 : Nat} {x3 : Int32} {l1 : Option Value} {l2 : Option Value} {l4 : Option Value} {l5 : Option Value} {l6 : Option Value} {l7 : Option Value} {l8 : Option Value} {l9 : Option Value}  : runF C d m_PL_would (22, [some (.ref a0), l1, l2, some (.int x3), l4, l5, l6, l7, l8, l9], [], σ) = bkN C d m_PL_would 27 [some (.ref a0), l1, l2, some (.int x3), l4, l5, l6, l7, l8, l9] [.ref a0] (C m_PL_isWithin [.int x3, .int ((0 : Int32)), .int ((9 : Int32))] σ) := by
  refine (r_aloadn 0 (show decode (zb m_PL_would) 22 = .ok (.aload_n 0, 1) from by decide +kernel) rfl).trans ?_
  refine (r_iloadn 3 (show decode (zb m_PL_would) 23 = .ok (.iload_n 3, 1) from by decide +kernel) rfl).trans ?_
  refine (r_iconst (v := (0 : Int32)) (show decode (zb m_PL_would) 24 = .ok (.iconst (0), 1) from by decide +kernel) (by decide)).trans ?_
  refine (r_bipush (v := (9 : Int32)) (show decode (zb m_PL_would) 25 = .ok (.bipush (9), 2) from by decide +kernel) (by decide)).trans ?_
  exact r_stat (args := [.int x3, .int ((0 : Int32)), .int ((9 : Int32))]) (rest := [.ref a0]) (show decode (zb m_PL_would) 27 = .ok (.invokestatic 177, 3) from by decide +kernel) rfl (by decide) rfl rfl
theorem b_PL_would_30 {C : CF} {d : Nat} {σ : HP} {s0 : Int32} {r1 : Nat} {l0 : Option Value} {l1 : Option Value} {l2 : Option Value} {l3 : Option Value} {l4 : Option Value} {l5 : Option Value} {l6 : Option Value} {l7 : Option Value} {l8 : Option Value} {l9 : Option Value} (h1 : r1 % 64 = 11) : runF C d m_PL_would (30, [l0, l1, l2, l3, l4, l5, l6, l7, l8, l9], [.int s0, .ref r1], σ) = bk C d m_PL_would 30 [l0, l1, l2, l3, l4, l5, l6, l7, l8, l9] [] (C m_PL_needArgument [.ref r1, .int s0] σ) := by
  exact r_virt (args := [.int s0]) (rest := []) (show decode (zb m_PL_would) 30 = .ok (.invokevirtual 181, 3) from by decide +kernel) rfl rfl rfl h1
theorem b_PL_would_33 {C : CF} {d : Nat} {σ : HP} {a0 : Nat} {x4 : Int32} {l1 : Option Value} {l2 : Option Value} {l3 : Option Value} {l5 : Option Value} {l6 : Option Value} {l7 : Option Value} {l8 : Option Value} {l9 : Option Value}  : runF C d m_PL_would (33, [some (.ref a0), l1, l2, l3, some (.int x4), l5, l6, l7, l8, l9], [], σ) = bkN C d m_PL_would 39 [some (.ref a0), l1, l2, l3, some (.int x4), l5, l6, l7, l8, l9] [.ref a0] (C m_PL_isWithin [.int x4, .int ((1 : Int32)), .int ((60 : Int32))] σ) := by
  refine (r_aloadn 0 (show decode (zb m_PL_would) 33 = .ok (.aload_n 0, 1) from by decide +kernel) rfl).trans ?_
  refine (r_iload 4 (show decode (zb m_PL_would) 34 = .ok (.iload 4, 2) from by decide +kernel) rfl).trans ?_
  refine (r_iconst (v := (1 : Int32)) (show decode (zb m_PL_would) 36 = .ok (.iconst (1), 1) from by decide +kernel) (by decide)).trans ?_
  refine (r_bipush (v := (60 : Int32)) (show decode (zb m_PL_would) 37 = .ok (.bipush (60), 2) from by decide +kernel) (by decide)).trans ?_
  exact r_stat (args := [.int x4, .int ((1 : Int32)), .int ((60 : Int32))]) (rest := [.ref a0]) (show decode (zb m_PL_would) 39 = .ok (.invokestatic 177, 3) from by decide +kernel) rfl (by decide) rfl rfl
theorem b_PL_would_42 {C : CF} {d : Nat} {σ : HP} {s0 : Int32} {r1 : Nat} {l0 : Option Value} {l1 : Option Value} {l2 : Option Value} {l3 : Option Value} {l4 : Option Value} {l5 : Option Value} {l6 : Option Value} {l7 : Option Value} {l8 : Option Value} {l9 : Option Value} (h1 : r1 % 64 = 11) : runF C d m_PL_would (42, [l0, l1, l2, l3, l4, l5, l6, l7, l8, l9], [.int s0, .ref r1], σ) = bk C d m_PL_would 42 [l0, l1, l2, l3, l4, l5, l6, l7, l8, l9] [] (C m_PL_needArgument [.ref r1, .int s0] σ) := by
  exact r_virt (args := [.int s0]) (rest := []) (show decode (zb m_PL_would) 42 = .ok (.invokevirtual 181, 3) from by decide +kernel) rfl rfl rfl h1
theorem b_PL_would_45 {C : CF} {d : Nat} {σ : HP} {a0 : Nat} {x5 : Int32} {l1 : Option Value} {l2 : Option Value} {l3 : Option Value} {l4 : Option Value} {l6 : Option Value} {l7 : Option Value} {l8 : Option Value} {l9 : Option Value}  : runF C d m_PL_would (45, [some (.ref a0), l1, l2, l3, l4, some (.int x5), l6, l7, l8, l9], [], σ) = bkN C d m_PL_would 52 [some (.ref a0), l1, l2, l3, l4, some (.int x5), l6, l7, l8, l9] [.ref a0] (C m_PL_isWithin [.int x5, .int ((0 : Int32)), .int ((900 : Int32))] σ) := by
  refine (r_aloadn 0 (show decode (zb m_PL_would) 45 = .ok (.aload_n 0, 1) from by decide +kernel) rfl).trans ?_
  refine (r_iload 5 (show decode (zb m_PL_would) 46 = .ok (.iload 5, 2) from by decide +kernel) rfl).trans ?_
  refine (r_iconst (v := (0 : Int32)) (show decode (zb m_PL_would) 48 = .ok (.iconst (0), 1) from by decide +kernel) (by decide)).trans ?_
  refine (r_sipush (v := (900 : Int32)) (show decode (zb m_PL_would) 49 = .ok (.sipush (900), 3) from by decide +kernel) (by decide)).trans ?_
  exact r_stat (args := [.int x5, .int ((0 : Int32)), .int ((900 : Int32))]) (rest := [.ref a0]) (show decode (zb m_PL_would) 52 = .ok (.invokestatic 177, 3) from by decide +kernel) rfl (by decide) rfl rfl
theorem b_PL_would_55 {C : CF} {d : Nat} {σ : HP} {s0 : Int32} {r1 : Nat} {l0 : Option Value} {l1 : Option Value} {l2 : Option Value} {l3 : Option Value} {l4 : Option Value} {l5 : Option Value} {l6 : Option Value} {l7 : Option Value} {l8 : Option Value} {l9 : Option Value} (h1 : r1 % 64 = 11) : runF C d m_PL_would (55, [l0, l1, l2, l3, l4, l5, l6, l7, l8, l9], [.int s0, .ref r1], σ) = bk C d m_PL_would 55 [l0, l1, l2, l3, l4, l5, l6, l7, l8, l9] [] (C m_PL_needArgument [.ref r1, .int s0] σ) := by
  exact r_virt (args := [.int s0]) (rest := []) (show decode (zb m_PL_would) 55 = .ok (.invokevirtual 181, 3) from by decide +kernel) rfl rfl rfl h1
theorem b_PL_would_58 {C : CF} {d : Nat} {σ : HP} {a0 : Nat} {x6 : Int32} {l1 : Option Value} {l2 : Option Value} {l3 : Option Value} {l4 : Option Value} {l5 : Option Value} {l7 : Option Value} {l8 : Option Value} {l9 : Option Value}  : runF C d m_PL_would (58, [some (.ref a0), l1, l2, l3, l4, l5, some (.int x6), l7, l8, l9], [], σ) = bkN C d m_PL_would 64 [some (.ref a0), l1, l2, l3, l4, l5, some (.int x6), l7, l8, l9] [.ref a0] (C m_PL_isWithin [.int x6, .int ((0 : Int32)), .int ((9 : Int32))] σ) := by
  refine (r_aloadn 0 (show decode (zb m_PL_would) 58 = .ok (.aload_n 0, 1) from by decide +kernel) rfl).trans ?_
  refine (r_iload 6 (show decode (zb m_PL_would) 59 = .ok (.iload 6, 2) from by decide +kernel) rfl).trans ?_
  refine (r_iconst (v := (0 : Int32)) (show decode (zb m_PL_would) 61 = .ok (.iconst (0), 1) from by decide +kernel) (by decide)).trans ?_
  refine (r_bipush (v := (9 : Int32)) (show decode (zb m_PL_would) 62 = .ok (.bipush (9), 2) from by decide +kernel) (by decide)).trans ?_
  exact r_stat (args := [.int x6, .int ((0 : Int32)), .int ((9 : Int32))]) (rest := [.ref a0]) (show decode (zb m_PL_would) 64 = .ok (.invokestatic 177, 3) from by decide +kernel) rfl (by decide) rfl rfl
theorem b_PL_would_67 {C : CF} {d : Nat} {σ : HP} {s0 : Int32} {r1 : Nat} {l0 : Option Value} {l1 : Option Value} {l2 : Option Value} {l3 : Option Value} {l4 : Option Value} {l5 : Option Value} {l6 : Option Value} {l7 : Option Value} {l8 : Option Value} {l9 : Option Value} (h1 : r1 % 64 = 11) : runF C d m_PL_would (67, [l0, l1, l2, l3, l4, l5, l6, l7, l8, l9], [.int s0, .ref r1], σ) = bk C d m_PL_would 67 [l0, l1, l2, l3, l4, l5, l6, l7, l8, l9] [] (C m_PL_needArgument [.ref r1, .int s0] σ) := by
  exact r_virt (args := [.int s0]) (rest := []) (show decode (zb m_PL_would) 67 = .ok (.invokevirtual 181, 3) from by decide +kernel) rfl rfl rfl h1
theorem b_PL_would_70 {C : CF} {d : Nat} {σ : HP} {a0 : Nat} {x7 : Int32} {l1 : Option Value} {l2 : Option Value} {l3 : Option Value} {l4 : Option Value} {l5 : Option Value} {l6 : Option Value} {l8 : Option Value} {l9 : Option Value}  : runF C d m_PL_would (70, [some (.ref a0), l1, l2, l3, l4, l5, l6, some (.int x7), l8, l9], [], σ) = bkN C d m_PL_would 77 [some (.ref a0), l1, l2, l3, l4, l5, l6, some (.int x7), l8, l9] [.ref a0] (C m_PL_isWithin [.int x7, .int ((0 : Int32)), .int ((999 : Int32))] σ) := by
  refine (r_aloadn 0 (show decode (zb m_PL_would) 70 = .ok (.aload_n 0, 1) from by decide +kernel) rfl).trans ?_
  refine (r_iload 7 (show decode (zb m_PL_would) 71 = .ok (.iload 7, 2) from by decide +kernel) rfl).trans ?_
  refine (r_iconst (v := (0 : Int32)) (show decode (zb m_PL_would) 73 = .ok (.iconst (0), 1) from by decide +kernel) (by decide)).trans ?_
  refine (r_sipush (v := (999 : Int32)) (show decode (zb m_PL_would) 74 = .ok (.sipush (999), 3) from by decide +kernel) (by decide)).trans ?_
  exact r_stat (args := [.int x7, .int ((0 : Int32)), .int ((999 : Int32))]) (rest := [.ref a0]) (show decode (zb m_PL_would) 77 = .ok (.invokestatic 177, 3) from by decide +kernel) rfl (by decide) rfl rfl
theorem b_PL_would_80 {C : CF} {d : Nat} {σ : HP} {s0 : Int32} {r1 : Nat} {l0 : Option Value} {l1 : Option Value} {l2 : Option Value} {l3 : Option Value} {l4 : Option Value} {l5 : Option Value} {l6 : Option Value} {l7 : Option Value} {l8 : Option Value} {l9 : Option Value} (h1 : r1 % 64 = 11) : runF C d m_PL_would (80, [l0, l1, l2, l3, l4, l5, l6, l7, l8, l9], [.int s0, .ref r1], σ) = bk C d m_PL_would 80 [l0, l1, l2, l3, l4, l5, l6, l7, l8, l9] [] (C m_PL_needArgument [.ref r1, .int s0] σ) := by
  exact r_virt (args := [.int s0]) (rest := []) (show decode (zb m_PL_would) 80 = .ok (.invokevirtual 181, 3) from by decide +kernel) rfl rfl rfl h1
theorem b_PL_would_83 {C : CF} {d : Nat} {σ : HP} {a0 : Nat} {x8 : Int32} {l1 : Option Value} {l2 : Option Value} {l3 : Option Value} {l4 : Option Value} {l5 : Option Value} {l6 : Option Value} {l7 : Option Value} {l9 : Option Value}  : runF C d m_PL_would (83, [some (.ref a0), l1, l2, l3, l4, l5, l6, l7, some (.int x8), l9], [], σ) = bkN C d m_PL_would 89 [some (.ref a0), l1, l2, l3, l4, l5, l6, l7, some (.int x8), l9] [.ref a0] (C m_PL_isWithin [.int x8, .int ((0 : Int32)), .int ((11 : Int32))] σ) := by
  refine (r_aloadn 0 (show decode (zb m_PL_would) 83 = .ok (.aload_n 0, 1) from by decide +kernel) rfl).trans ?_
  refine (r_iload 8 (show decode (zb m_PL_would) 84 = .ok (.iload 8, 2) from by decide +kernel) rfl).trans ?_
  refine (r_iconst (v := (0 : Int32)) (show decode (zb m_PL_would) 86 = .ok (.iconst (0), 1) from by decide +kernel) (by decide)).trans ?_
  refine (r_bipush (v := (11 : Int32)) (show decode (zb m_PL_would) 87 = .ok (.bipush (11), 2) from by decide +kernel) (by decide)).trans ?_
  exact r_stat (args := [.int x8, .int ((0 : Int32)), .int ((11 : Int32))]) (rest := [.ref a0]) (show decode (zb m_PL_would) 89 = .ok (.invokestatic 177, 3) from by decide +kernel) rfl (by decide) rfl rfl
theorem b_PL_would_92 {C : CF} {d : Nat} {σ : HP} {s0 : Int32} {r1 : Nat} {l0 : Option Value} {l1 : Option Value} {l2 : Option Value} {l3 : Option Value} {l4 : Option Value} {l5 : Option Value} {l6 : Option Value} {l7 : Option Value} {l8 : Option Value} {l9 : Option Value} (h1 : r1 % 64 = 11) : runF C d m_PL_would (92, [l0, l1, l2, l3, l4, l5, l6, l7, l8, l9], [.int s0, .ref r1], σ) = bk C d m_PL_would 92 [l0, l1, l2, l3, l4, l5, l6, l7, l8, l9] [] (C m_PL_needArgument [.ref r1, .int s0] σ) := by
  exact r_virt (args := [.int s0]) (rest := []) (show decode (zb m_PL_would) 92 = .ok (.invokevirtual 181, 3) from by decide +kernel) rfl rfl rfl h1
theorem b_PL_would_95 {C : CF} {d : Nat} {σ : HP} {a0 : Nat} {x9 : Int32} {l1 : Option Value} {l2 : Option Value} {l3 : Option Value} {l4 : Option Value} {l5 : Option Value} {l6 : Option Value} {l7 : Option Value} {l8 : Option Value}  : runF C d m_PL_would (95, [some (.ref a0), l1, l2, l3, l4, l5, l6, l7, l8, some (.int x9)], [], σ) = bkN C d m_PL_would 101 [some (.ref a0), l1, l2, l3, l4, l5, l6, l7, l8, some (.int x9)] [.ref a0] (C m_PL_isWithin [.int x9, .int ((0 : Int32)), .int ((6 : Int32))] σ) := by
  refine (r_aloadn 0 (show decode (zb m_PL_would) 95 = .ok (.aload_n 0, 1) from by decide +kernel) rfl).trans ?_
  refine (r_iload 9 (show decode (zb m_PL_would) 96 = .ok (.iload 9, 2) from by decide +kernel) rfl).trans ?_
  refine (r_iconst (v := (0 : Int32)) (show decode (zb m_PL_would) 98 = .ok (.iconst (0), 1) from by decide +kernel) (by decide)).trans ?_
  refine (r_bipush (v := (6 : Int32)) (show decode (zb m_PL_would) 99 = .ok (.bipush (6), 2) from by decide +kernel) (by decide)).trans ?_
  exact r_stat (args := [.int x9, .int ((0 : Int32)), .int ((6 : Int32))]) (rest := [.ref a0]) (show decode (zb m_PL_would) 101 = .ok (.invokestatic 177, 3) from by decide +kernel) rfl (by decide) rfl rfl
theorem b_PL_would_104 {C : CF} {d : Nat} {σ : HP} {s0 : Int32} {r1 : Nat} {l0 : Option Value} {l1 : Option Value} {l2 : Option Value} {l3 : Option Value} {l4 : Option Value} {l5 : Option Value} {l6 : Option Value} {l7 : Option Value} {l8 : Option Value} {l9 : Option Value} (h1 : r1 % 64 = 11) : runF C d m_PL_would (104, [l0, l1, l2, l3, l4, l5, l6, l7, l8, l9], [.int s0, .ref r1], σ) = bk C d m_PL_would 104 [l0, l1, l2, l3, l4, l5, l6, l7, l8, l9] [] (C m_PL_needArgument [.ref r1, .int s0] σ) := by
  exact r_virt (args := [.int s0]) (rest := []) (show decode (zb m_PL_would) 104 = .ok (.invokevirtual 181, 3) from by decide +kernel) rfl rfl rfl h1
theorem b_PL_would_107 {C : CF} {d : Nat} {σ : HP} {a0 : Nat} {x1 : Int32} {x2 : Int32} {x6 : Int32} {l3 : Option Value} {l4 : Option Value} {l5 : Option Value} {l7 : Option Value} {l8 : Option Value} {l9 : Option Value} (h1 : a0 % 64 = 11) (h2 : (gR σ a0 1).isSome = true) (h3 : (dr (gR σ a0 1)) % 64 = 5) (h4 : (gR σ (dr (gR σ a0 1)) 1).isSome = true) (h5 : (dr (gR σ (dr (gR σ a0 1)) 1)) % 64 = 4) : runF C d m_PL_would (107, [some (.ref a0), some (.int x1), some (.int x2), l3, l4, l5, some (.int x6), l7, l8, l9], [], σ) = bk C d m_PL_would 118 [some (.ref a0), some (.int x1), some (.int x2), l3, l4, l5, some (.int x6), l7, l8, l9] [] (C m_Law_tellWords [.ref (dr (gR σ (dr (gR σ a0 1)) 1)), .int x1, .int x2, .int x6] σ) := by
  refine (r_aloadn 0 (show decode (zb m_PL_would) 107 = .ok (.aload_n 0, 1) from by decide +kernel) rfl).trans ?_
  refine (r_getR (show decode (zb m_PL_would) 108 = .ok (.getfield 19, 3) from by decide +kernel) rfl rfl h1 h2).trans ?_
  refine (r_getR (show decode (zb m_PL_would) 111 = .ok (.getfield 131, 3) from by decide +kernel) rfl rfl h3 h4).trans ?_
  refine (r_iloadn 1 (show decode (zb m_PL_would) 114 = .ok (.iload_n 1, 1) from by decide +kernel) rfl).trans ?_
  refine (r_iloadn 2 (show decode (zb m_PL_would) 115 = .ok (.iload_n 2, 1) from by decide +kernel) rfl).trans ?_
  refine (r_iload 6 (show decode (zb m_PL_would) 116 = .ok (.iload 6, 2) from by decide +kernel) rfl).trans ?_
  exact r_virt (args := [.int x1, .int x2, .int x6]) (rest := []) (show decode (zb m_PL_would) 118 = .ok (.invokevirtual 267, 3) from by decide +kernel) rfl rfl rfl h5
theorem b_PL_would_121 {C : CF} {d : Nat} {σ : HP} {a0 : Nat} {x3 : Int32} {x4 : Int32} {x5 : Int32} {l1 : Option Value} {l2 : Option Value} {l6 : Option Value} {l7 : Option Value} {l8 : Option Value} {l9 : Option Value} (h1 : a0 % 64 = 11) (h2 : (gR σ a0 1).isSome = true) (h3 : (dr (gR σ a0 1)) % 64 = 5) (h4 : (gR σ (dr (gR σ a0 1)) 1).isSome = true) (h5 : (dr (gR σ (dr (gR σ a0 1)) 1)) % 64 = 4) : runF C d m_PL_would (121, [some (.ref a0), l1, l2, some (.int x3), some (.int x4), some (.int x5), l6, l7, l8, l9], [], σ) = bk C d m_PL_would 133 [some (.ref a0), l1, l2, some (.int x3), some (.int x4), some (.int x5), l6, l7, l8, l9] [] (C m_Law_tellMan [.ref (dr (gR σ (dr (gR σ a0 1)) 1)), .int x3, .int x4, .int x5] σ) := by
  refine (r_aloadn 0 (show decode (zb m_PL_would) 121 = .ok (.aload_n 0, 1) from by decide +kernel) rfl).trans ?_
  refine (r_getR (show decode (zb m_PL_would) 122 = .ok (.getfield 19, 3) from by decide +kernel) rfl rfl h1 h2).trans ?_
  refine (r_getR (show decode (zb m_PL_would) 125 = .ok (.getfield 131, 3) from by decide +kernel) rfl rfl h3 h4).trans ?_
  refine (r_iloadn 3 (show decode (zb m_PL_would) 128 = .ok (.iload_n 3, 1) from by decide +kernel) rfl).trans ?_
  refine (r_iload 4 (show decode (zb m_PL_would) 129 = .ok (.iload 4, 2) from by decide +kernel) rfl).trans ?_
  refine (r_iload 5 (show decode (zb m_PL_would) 131 = .ok (.iload 5, 2) from by decide +kernel) rfl).trans ?_
  exact r_virt (args := [.int x3, .int x4, .int x5]) (rest := []) (show decode (zb m_PL_would) 133 = .ok (.invokevirtual 271, 3) from by decide +kernel) rfl rfl rfl h5
theorem b_PL_would_136 {C : CF} {d : Nat} {σ : HP} {a0 : Nat} {x7 : Int32} {x8 : Int32} {x9 : Int32} {l1 : Option Value} {l2 : Option Value} {l3 : Option Value} {l4 : Option Value} {l5 : Option Value} {l6 : Option Value} (h1 : a0 % 64 = 11) (h2 : (gR σ a0 1).isSome = true) (h3 : (dr (gR σ a0 1)) % 64 = 5) (h4 : (gR σ (dr (gR σ a0 1)) 1).isSome = true) (h5 : (dr (gR σ (dr (gR σ a0 1)) 1)) % 64 = 4) : runF C d m_PL_would (136, [some (.ref a0), l1, l2, l3, l4, l5, l6, some (.int x7), some (.int x8), some (.int x9)], [], σ) = bk C d m_PL_would 149 [some (.ref a0), l1, l2, l3, l4, l5, l6, some (.int x7), some (.int x8), some (.int x9)] [] (C m_Law_tellWhere [.ref (dr (gR σ (dr (gR σ a0 1)) 1)), .int x7, .int x8, .int x9] σ) := by
  refine (r_aloadn 0 (show decode (zb m_PL_would) 136 = .ok (.aload_n 0, 1) from by decide +kernel) rfl).trans ?_
  refine (r_getR (show decode (zb m_PL_would) 137 = .ok (.getfield 19, 3) from by decide +kernel) rfl rfl h1 h2).trans ?_
  refine (r_getR (show decode (zb m_PL_would) 140 = .ok (.getfield 131, 3) from by decide +kernel) rfl rfl h3 h4).trans ?_
  refine (r_iload 7 (show decode (zb m_PL_would) 143 = .ok (.iload 7, 2) from by decide +kernel) rfl).trans ?_
  refine (r_iload 8 (show decode (zb m_PL_would) 145 = .ok (.iload 8, 2) from by decide +kernel) rfl).trans ?_
  refine (r_iload 9 (show decode (zb m_PL_would) 147 = .ok (.iload 9, 2) from by decide +kernel) rfl).trans ?_
  exact r_virt (args := [.int x7, .int x8, .int x9]) (rest := []) (show decode (zb m_PL_would) 149 = .ok (.invokevirtual 274, 3) from by decide +kernel) rfl rfl rfl h5
theorem b_PL_would_152 {C : CF} {d : Nat} {σ : HP} {a0 : Nat} {l1 : Option Value} {l2 : Option Value} {l3 : Option Value} {l4 : Option Value} {l5 : Option Value} {l6 : Option Value} {l7 : Option Value} {l8 : Option Value} {l9 : Option Value} (h1 : a0 % 64 = 11) (h2 : (gR σ a0 1).isSome = true) (h3 : (dr (gR σ a0 1)) % 64 = 5) (h4 : (gR σ (dr (gR σ a0 1)) 1).isSome = true) (h5 : (dr (gR σ (dr (gR σ a0 1)) 1)) % 64 = 4) : runF C d m_PL_would (152, [some (.ref a0), l1, l2, l3, l4, l5, l6, l7, l8, l9], [], σ) = bk C d m_PL_would 159 [some (.ref a0), l1, l2, l3, l4, l5, l6, l7, l8, l9] [] (C m_Law_swellByFacts [.ref (dr (gR σ (dr (gR σ a0 1)) 1))] σ) := by
  refine (r_aloadn 0 (show decode (zb m_PL_would) 152 = .ok (.aload_n 0, 1) from by decide +kernel) rfl).trans ?_
  refine (r_getR (show decode (zb m_PL_would) 153 = .ok (.getfield 19, 3) from by decide +kernel) rfl rfl h1 h2).trans ?_
  refine (r_getR (show decode (zb m_PL_would) 156 = .ok (.getfield 131, 3) from by decide +kernel) rfl rfl h3 h4).trans ?_
  exact r_virt (args := []) (rest := []) (show decode (zb m_PL_would) 159 = .ok (.invokevirtual 277, 3) from by decide +kernel) rfl rfl rfl h5
theorem b_PL_would_162 {C : CF} {d : Nat} {σ : HP} {s0 : Int32} {l0 : Option Value} {l1 : Option Value} {l2 : Option Value} {l3 : Option Value} {l4 : Option Value} {l5 : Option Value} {l6 : Option Value} {l7 : Option Value} {l8 : Option Value} {l9 : Option Value}  : runF C d m_PL_would (162, [l0, l1, l2, l3, l4, l5, l6, l7, l8, l9], [.int s0], σ) = some (.inl (some (.int s0)), σ) := by
  exact r_iret (show decode (zb m_PL_would) 162 = .ok (.ireturn, 1) from by decide +kernel) rfl rfl
theorem e_PL_ahead {d : Nat} {σ : HP} {a0 : Nat} {x1 : Int32} {x2 : Int32} : callF (d + 1) m_PL_ahead [.ref a0, .int x1, .int x2] σ = runF (callF d) d m_PL_ahead (0, [some (.ref a0), some (.int x1), some (.int x2), none], [], σ) := callF_in rfl rfl
theorem b_PL_ahead_0 {C : CF} {d : Nat} {σ : HP} {a0 : Nat} {x1 : Int32} {l2 : Option Value} {l3 : Option Value}  : runF C d m_PL_ahead (0, [some (.ref a0), some (.int x1), l2, l3], [], σ) = bkN C d m_PL_ahead 5 [some (.ref a0), some (.int x1), l2, l3] [.ref a0] (C m_PL_isWithin [.int x1, .int ((0 : Int32)), .int ((99 : Int32))] σ) := by
  refine (r_aloadn 0 (show decode (zb m_PL_ahead) 0 = .ok (.aload_n 0, 1) from by decide +kernel) rfl).trans ?_
  refine (r_iloadn 1 (show decode (zb m_PL_ahead) 1 = .ok (.iload_n 1, 1) from by decide +kernel) rfl).trans ?_
  refine (r_iconst (v := (0 : Int32)) (show decode (zb m_PL_ahead) 2 = .ok (.iconst (0), 1) from by decide +kernel) (by decide)).trans ?_
  refine (r_bipush (v := (99 : Int32)) (show decode (zb m_PL_ahead) 3 = .ok (.bipush (99), 2) from by decide +kernel) (by decide)).trans ?_
  exact r_stat (args := [.int x1, .int ((0 : Int32)), .int ((99 : Int32))]) (rest := [.ref a0]) (show decode (zb m_PL_ahead) 5 = .ok (.invokestatic 177, 3) from by decide +kernel) rfl (by decide) rfl rfl
theorem b_PL_ahead_8 {C : CF} {d : Nat} {σ : HP} {s0 : Int32} {r1 : Nat} {l0 : Option Value} {l1 : Option Value} {l2 : Option Value} {l3 : Option Value} (h1 : r1 % 64 = 11) : runF C d m_PL_ahead (8, [l0, l1, l2, l3], [.int s0, .ref r1], σ) = bk C d m_PL_ahead 8 [l0, l1, l2, l3] [] (C m_PL_needArgument [.ref r1, .int s0] σ) := by
  exact r_virt (args := [.int s0]) (rest := []) (show decode (zb m_PL_ahead) 8 = .ok (.invokevirtual 181, 3) from by decide +kernel) rfl rfl rfl h1
theorem b_PL_ahead_11 {C : CF} {d : Nat} {σ : HP} {a0 : Nat} {x2 : Int32} {l1 : Option Value} {l3 : Option Value}  : runF C d m_PL_ahead (11, [some (.ref a0), l1, some (.int x2), l3], [], σ) = bkN C d m_PL_ahead 15 [some (.ref a0), l1, some (.int x2), l3] [.ref a0] (C m_PL_isWithin [.int x2, .int ((0 : Int32)), .int ((2 : Int32))] σ) := by
  refine (r_aloadn 0 (show decode (zb m_PL_ahead) 11 = .ok (.aload_n 0, 1) from by decide +kernel) rfl).trans ?_
  refine (r_iloadn 2 (show decode (zb m_PL_ahead) 12 = .ok (.iload_n 2, 1) from by decide +kernel) rfl).trans ?_
  refine (r_iconst (v := (0 : Int32)) (show decode (zb m_PL_ahead) 13 = .ok (.iconst (0), 1) from by decide +kernel) (by decide)).trans ?_
  refine (r_iconst (v := (2 : Int32)) (show decode (zb m_PL_ahead) 14 = .ok (.iconst (2), 1) from by decide +kernel) (by decide)).trans ?_
  exact r_stat (args := [.int x2, .int ((0 : Int32)), .int ((2 : Int32))]) (rest := [.ref a0]) (show decode (zb m_PL_ahead) 15 = .ok (.invokestatic 177, 3) from by decide +kernel) rfl (by decide) rfl rfl
theorem b_PL_ahead_18 {C : CF} {d : Nat} {σ : HP} {s0 : Int32} {r1 : Nat} {l0 : Option Value} {l1 : Option Value} {l2 : Option Value} {l3 : Option Value} (h1 : r1 % 64 = 11) : runF C d m_PL_ahead (18, [l0, l1, l2, l3], [.int s0, .ref r1], σ) = bk C d m_PL_ahead 18 [l0, l1, l2, l3] [] (C m_PL_needArgument [.ref r1, .int s0] σ) := by
  exact r_virt (args := [.int s0]) (rest := []) (show decode (zb m_PL_ahead) 18 = .ok (.invokevirtual 181, 3) from by decide +kernel) rfl rfl rfl h1
theorem b_PL_ahead_21 {C : CF} {d : Nat} {σ : HP} {x2 : Int32} {l0 : Option Value} {l1 : Option Value} {l3 : Option Value}  : runF C d m_PL_ahead (21, [l0, l1, some (.int x2), l3], [], σ) = if ¬ x2 = 0 then runF C d m_PL_ahead (34, [l0, l1, some (.int x2), l3], [], σ) else runF C d m_PL_ahead (25, [l0, l1, some (.int x2), l3], [], σ) := by
  refine (r_iloadn 2 (show decode (zb m_PL_ahead) 21 = .ok (.iload_n 2, 1) from by decide +kernel) rfl).trans ?_
  exact r_if_ne 34 (show decode (zb m_PL_ahead) 22 = .ok (.ifCond .ne (12), 3) from by decide +kernel) rfl
theorem b_PL_ahead_25 {C : CF} {d : Nat} {σ : HP} {a0 : Nat} {x1 : Int32} {l2 : Option Value} {l3 : Option Value} (h1 : a0 % 64 = 11) (h2 : (gR σ a0 1).isSome = true) (h3 : (dr (gR σ a0 1)) % 64 = 5) : runF C d m_PL_ahead (25, [some (.ref a0), some (.int x1), l2, l3], [], σ) = bk C d m_PL_ahead 30 [some (.ref a0), some (.int x1), l2, l3] [] (C m_Lift_levelBehindGoes [.ref (dr (gR σ a0 1)), .int x1] σ) := by
  refine (r_aloadn 0 (show decode (zb m_PL_ahead) 25 = .ok (.aload_n 0, 1) from by decide +kernel) rfl).trans ?_
  refine (r_getR (show decode (zb m_PL_ahead) 26 = .ok (.getfield 19, 3) from by decide +kernel) rfl rfl h1 h2).trans ?_
  refine (r_iloadn 1 (show decode (zb m_PL_ahead) 29 = .ok (.iload_n 1, 1) from by decide +kernel) rfl).trans ?_
  exact r_virt (args := [.int x1]) (rest := []) (show decode (zb m_PL_ahead) 30 = .ok (.invokevirtual 280, 3) from by decide +kernel) rfl rfl rfl h3
theorem b_PL_ahead_33 {C : CF} {d : Nat} {σ : HP} {s0 : Int32} {l0 : Option Value} {l1 : Option Value} {l2 : Option Value} {l3 : Option Value}  : runF C d m_PL_ahead (33, [l0, l1, l2, l3], [.int s0], σ) = some (.inl (some (.int s0)), σ) := by
  exact r_iret (show decode (zb m_PL_ahead) 33 = .ok (.ireturn, 1) from by decide +kernel) rfl rfl
theorem b_PL_ahead_34 {C : CF} {d : Nat} {σ : HP} {a0 : Nat} {l1 : Option Value} {l2 : Option Value} {l3 : Option Value} (h1 : a0 % 64 = 11) (h2 : (gR σ a0 2).isSome = true) (h3 : (gR σ a0 1).isSome = true) (h4 : (dr (gR σ a0 2)) % 64 = 5) : runF C d m_PL_ahead (34, [some (.ref a0), l1, l2, l3], [], σ) = bk C d m_PL_ahead 42 [some (.ref a0), l1, l2, l3] [] (C m_Lift_becomeLike [.ref (dr (gR σ a0 2)), .ref (dr (gR σ a0 1))] σ) := by
  refine (r_aloadn 0 (show decode (zb m_PL_ahead) 34 = .ok (.aload_n 0, 1) from by decide +kernel) rfl).trans ?_
  refine (r_getR (show decode (zb m_PL_ahead) 35 = .ok (.getfield 23, 3) from by decide +kernel) rfl rfl h1 h2).trans ?_
  refine (r_aloadn 0 (show decode (zb m_PL_ahead) 38 = .ok (.aload_n 0, 1) from by decide +kernel) rfl).trans ?_
  refine (r_getR (show decode (zb m_PL_ahead) 39 = .ok (.getfield 19, 3) from by decide +kernel) rfl rfl h1 h3).trans ?_
  exact r_virt (args := [.ref (dr (gR σ a0 1))]) (rest := []) (show decode (zb m_PL_ahead) 42 = .ok (.invokevirtual 283, 3) from by decide +kernel) rfl rfl rfl h4
theorem b_PL_ahead_45 {C : CF} {d : Nat} {σ : HP} {l0 : Option Value} {l1 : Option Value} {l2 : Option Value} {l3 : Option Value}  : runF C d m_PL_ahead (45, [l0, l1, l2, l3], [], σ) = runF C d m_PL_ahead (47, [l0, l1, l2, some (.int ((0 : Int32)))], [], σ) := by
  refine (r_iconst (v := (0 : Int32)) (show decode (zb m_PL_ahead) 45 = .ok (.iconst (0), 1) from by decide +kernel) (by decide)).trans ?_
  exact r_istoren 3 (show decode (zb m_PL_ahead) 46 = .ok (.istore_n 3, 1) from by decide +kernel) rfl
theorem b_PL_ahead_47 {C : CF} {d : Nat} {σ : HP} {x3 : Int32} {x1 : Int32} {l0 : Option Value} {l2 : Option Value}  : runF C d m_PL_ahead (47, [l0, some (.int x1), l2, some (.int x3)], [], σ) = if x1 ≤ x3 then runF C d m_PL_ahead (65, [l0, some (.int x1), l2, some (.int x3)], [], σ) else runF C d m_PL_ahead (52, [l0, some (.int x1), l2, some (.int x3)], [], σ) := by
  refine (r_iloadn 3 (show decode (zb m_PL_ahead) 47 = .ok (.iload_n 3, 1) from by decide +kernel) rfl).trans ?_
  refine (r_iloadn 1 (show decode (zb m_PL_ahead) 48 = .ok (.iload_n 1, 1) from by decide +kernel) rfl).trans ?_
  exact r_icmp_ge 65 (show decode (zb m_PL_ahead) 49 = .ok (.if_icmp .ge (16), 3) from by decide +kernel) rfl
theorem b_PL_ahead_52 {C : CF} {d : Nat} {σ : HP} {a0 : Nat} {l1 : Option Value} {l2 : Option Value} {l3 : Option Value} (h1 : a0 % 64 = 11) (h2 : (gR σ a0 2).isSome = true) (h3 : (dr (gR σ a0 2)) % 64 = 5) : runF C d m_PL_ahead (52, [some (.ref a0), l1, l2, l3], [], σ) = bk C d m_PL_ahead 56 [some (.ref a0), l1, l2, l3] [] (C m_Lift_halvePrides [.ref (dr (gR σ a0 2))] σ) := by
  refine (r_aloadn 0 (show decode (zb m_PL_ahead) 52 = .ok (.aload_n 0, 1) from by decide +kernel) rfl).trans ?_
  refine (r_getR (show decode (zb m_PL_ahead) 53 = .ok (.getfield 23, 3) from by decide +kernel) rfl rfl h1 h2).trans ?_
  exact r_virt (args := []) (rest := []) (show decode (zb m_PL_ahead) 56 = .ok (.invokevirtual 287, 3) from by decide +kernel) rfl rfl rfl h3
theorem b_PL_ahead_59 {C : CF} {d : Nat} {σ : HP} {x3 : Int32} {l0 : Option Value} {l1 : Option Value} {l2 : Option Value}  : runF C d m_PL_ahead (59, [l0, l1, l2, some (.int x3)], [], σ) = runF C d m_PL_ahead (47, [l0, l1, l2, some (.int (x3 + (1 : Int32)))], [], σ) := by
  refine (r_iinc 3 (v := (1 : Int32)) (show decode (zb m_PL_ahead) 59 = .ok (.iinc 3 (1), 3) from by decide +kernel) rfl rfl (by decide)).trans ?_
  exact r_goto 47 (show decode (zb m_PL_ahead) 62 = .ok (.goto (-15), 3) from by decide +kernel) rfl
theorem b_PL_ahead_65 {C : CF} {d : Nat} {σ : HP} {x2 : Int32} {l0 : Option Value} {l1 : Option Value} {l3 : Option Value}  : runF C d m_PL_ahead (65, [l0, l1, some (.int x2), l3], [], σ) = if ¬ x2 = (1 : Int32) then runF C d m_PL_ahead (80, [l0, l1, some (.int x2), l3], [], σ) else runF C d m_PL_ahead (70, [l0, l1, some (.int x2), l3], [], σ) := by
  refine (r_iloadn 2 (show decode (zb m_PL_ahead) 65 = .ok (.iload_n 2, 1) from by decide +kernel) rfl).trans ?_
  refine (r_iconst (v := (1 : Int32)) (show decode (zb m_PL_ahead) 66 = .ok (.iconst (1), 1) from by decide +kernel) (by decide)).trans ?_
  exact r_icmp_ne 80 (show decode (zb m_PL_ahead) 67 = .ok (.if_icmp .ne (13), 3) from by decide +kernel) rfl
theorem b_PL_ahead_70 {C : CF} {d : Nat} {σ : HP} {a0 : Nat} {l1 : Option Value} {l2 : Option Value} {l3 : Option Value} (h1 : a0 % 64 = 11) (h2 : (gR σ a0 2).isSome = true) (h3 : (dr (gR σ a0 2)) % 64 = 5) : runF C d m_PL_ahead (70, [some (.ref a0), l1, l2, l3], [], σ) = bk C d m_PL_ahead 74 [some (.ref a0), l1, l2, l3] [] (C m_Lift_loadNow [.ref (dr (gR σ a0 2))] σ) := by
  refine (r_aloadn 0 (show decode (zb m_PL_ahead) 70 = .ok (.aload_n 0, 1) from by decide +kernel) rfl).trans ?_
  refine (r_getR (show decode (zb m_PL_ahead) 71 = .ok (.getfield 23, 3) from by decide +kernel) rfl rfl h1 h2).trans ?_
  exact r_virt (args := []) (rest := []) (show decode (zb m_PL_ahead) 74 = .ok (.invokevirtual 202, 3) from by decide +kernel) rfl rfl rfl h3
theorem b_PL_ahead_77 {C : CF} {d : Nat} {σ : HP} {s0 : Int32} {l0 : Option Value} {l1 : Option Value} {l2 : Option Value} {l3 : Option Value}  : runF C d m_PL_ahead (77, [l0, l1, l2, l3], [.int s0], σ) = runF C d m_PL_ahead (87, [l0, l1, l2, l3], [.int s0], σ) := by
  exact r_goto 87 (show decode (zb m_PL_ahead) 77 = .ok (.goto (10), 3) from by decide +kernel) rfl
theorem b_PL_ahead_80 {C : CF} {d : Nat} {σ : HP} {a0 : Nat} {l1 : Option Value} {l2 : Option Value} {l3 : Option Value} (h1 : a0 % 64 = 11) (h2 : (gR σ a0 2).isSome = true) (h3 : (dr (gR σ a0 2)) % 64 = 5) : runF C d m_PL_ahead (80, [some (.ref a0), l1, l2, l3], [], σ) = bk C d m_PL_ahead 84 [some (.ref a0), l1, l2, l3] [] (C m_Lift_prideOfAll [.ref (dr (gR σ a0 2))] σ) := by
  refine (r_aloadn 0 (show decode (zb m_PL_ahead) 80 = .ok (.aload_n 0, 1) from by decide +kernel) rfl).trans ?_
  refine (r_getR (show decode (zb m_PL_ahead) 81 = .ok (.getfield 23, 3) from by decide +kernel) rfl rfl h1 h2).trans ?_
  exact r_virt (args := []) (rest := []) (show decode (zb m_PL_ahead) 84 = .ok (.invokevirtual 290, 3) from by decide +kernel) rfl rfl rfl h3
theorem b_PL_ahead_87 {C : CF} {d : Nat} {σ : HP} {s0 : Int32} {l0 : Option Value} {l1 : Option Value} {l2 : Option Value} {l3 : Option Value}  : runF C d m_PL_ahead (87, [l0, l1, l2, l3], [.int s0], σ) = some (.inl (some (.int s0)), σ) := by
  exact r_iret (show decode (zb m_PL_ahead) 87 = .ok (.ireturn, 1) from by decide +kernel) rfl rfl
theorem e_PL_to {d : Nat} {σ : HP} {a0 : Nat} {x1 : Int32} : callF (d + 1) m_PL_to [.ref a0, .int x1] σ = runF (callF d) d m_PL_to (0, [some (.ref a0), some (.int x1)], [], σ) := callF_in rfl rfl
theorem b_PL_to_0 {C : CF} {d : Nat} {σ : HP} {a0 : Nat} {x1 : Int32} (h1 : a0 % 64 = 11) (h2 : (gR σ a0 1).isSome = true) (h3 : (dr (gR σ a0 1)) % 64 = 5) (h4 : (gR σ (dr (gR σ a0 1)) 0).isSome = true) (h5 : (dr (gR σ (dr (gR σ a0 1)) 0)) % 64 = 2) : runF C d m_PL_to (0, [some (.ref a0), some (.int x1)], [], σ) = bkN C d m_PL_to 15 [some (.ref a0), some (.int x1)] [.ref a0] (C m_PL_isWithin [.int x1, .int ((0 : Int32)), .int ((gI σ (dr (gR σ (dr (gR σ a0 1)) 0)) 0) - (1 : Int32))] σ) := by
  refine (r_aloadn 0 (show decode (zb m_PL_to) 0 = .ok (.aload_n 0, 1) from by decide +kernel) rfl).trans ?_
  refine (r_iloadn 1 (show decode (zb m_PL_to) 1 = .ok (.iload_n 1, 1) from by decide +kernel) rfl).trans ?_
  refine (r_iconst (v := (0 : Int32)) (show decode (zb m_PL_to) 2 = .ok (.iconst (0), 1) from by decide +kernel) (by decide)).trans ?_
  refine (r_aloadn 0 (show decode (zb m_PL_to) 3 = .ok (.aload_n 0, 1) from by decide +kernel) rfl).trans ?_
  refine (r_getR (show decode (zb m_PL_to) 4 = .ok (.getfield 19, 3) from by decide +kernel) rfl rfl h1 h2).trans ?_
  refine (r_getR (show decode (zb m_PL_to) 7 = .ok (.getfield 138, 3) from by decide +kernel) rfl rfl h3 h4).trans ?_
  refine (r_getI (show decode (zb m_PL_to) 10 = .ok (.getfield 185, 3) from by decide +kernel) rfl rfl h5).trans ?_
  refine (r_iconst (v := (1 : Int32)) (show decode (zb m_PL_to) 13 = .ok (.iconst (1), 1) from by decide +kernel) (by decide)).trans ?_
  refine (r_isub (show decode (zb m_PL_to) 14 = .ok (.isub, 1) from by decide +kernel)).trans ?_
  exact r_stat (args := [.int x1, .int ((0 : Int32)), .int ((gI σ (dr (gR σ (dr (gR σ a0 1)) 0)) 0) - (1 : Int32))]) (rest := [.ref a0]) (show decode (zb m_PL_to) 15 = .ok (.invokestatic 177, 3) from by decide +kernel) rfl (by decide) rfl rfl
theorem b_PL_to_18 {C : CF} {d : Nat} {σ : HP} {s0 : Int32} {r1 : Nat} {l0 : Option Value} {l1 : Option Value} (h1 : r1 % 64 = 11) : runF C d m_PL_to (18, [l0, l1], [.int s0, .ref r1], σ) = bk C d m_PL_to 18 [l0, l1] [] (C m_PL_needArgument [.ref r1, .int s0] σ) := by
  exact r_virt (args := [.int s0]) (rest := []) (show decode (zb m_PL_to) 18 = .ok (.invokevirtual 181, 3) from by decide +kernel) rfl rfl rfl h1
theorem b_PL_to_21 {C : CF} {d : Nat} {σ : HP} {a0 : Nat} {x1 : Int32} (h1 : a0 % 64 = 11) (h2 : (gR σ a0 5).isSome = true) (h3 : (gR σ a0 1).isSome = true) (h4 : (dr (gR σ a0 5)) % 64 = 8) : runF C d m_PL_to (21, [some (.ref a0), some (.int x1)], [], σ) = bk C d m_PL_to 30 [some (.ref a0), some (.int x1)] [] (C m_Scales_fewestCardsTo [.ref (dr (gR σ a0 5)), .ref (dr (gR σ a0 1)), .int x1] σ) := by
  refine (r_aloadn 0 (show decode (zb m_PL_to) 21 = .ok (.aload_n 0, 1) from by decide +kernel) rfl).trans ?_
  refine (r_getR (show decode (zb m_PL_to) 22 = .ok (.getfield 43, 3) from by decide +kernel) rfl rfl h1 h2).trans ?_
  refine (r_aloadn 0 (show decode (zb m_PL_to) 25 = .ok (.aload_n 0, 1) from by decide +kernel) rfl).trans ?_
  refine (r_getR (show decode (zb m_PL_to) 26 = .ok (.getfield 19, 3) from by decide +kernel) rfl rfl h1 h3).trans ?_
  refine (r_iloadn 1 (show decode (zb m_PL_to) 29 = .ok (.iload_n 1, 1) from by decide +kernel) rfl).trans ?_
  exact r_virt (args := [.ref (dr (gR σ a0 1)), .int x1]) (rest := []) (show decode (zb m_PL_to) 30 = .ok (.invokevirtual 293, 3) from by decide +kernel) rfl rfl rfl h4
theorem b_PL_to_33 {C : CF} {d : Nat} {σ : HP} {s0 : Int32} {l0 : Option Value} {l1 : Option Value}  : runF C d m_PL_to (33, [l0, l1], [.int s0], σ) = some (.inl (some (.int s0)), σ) := by
  exact r_iret (show decode (zb m_PL_to) 33 = .ok (.ireturn, 1) from by decide +kernel) rfl rfl
theorem e_PL_couple {d : Nat} {σ : HP} {a0 : Nat} {x1 : Int32} : callF (d + 1) m_PL_couple [.ref a0, .int x1] σ = runF (callF d) d m_PL_couple (0, [some (.ref a0), some (.int x1), none], [], σ) := callF_in rfl rfl
theorem b_PL_couple_0 {C : CF} {d : Nat} {σ : HP} {a0 : Nat} {x1 : Int32} {l2 : Option Value}  : runF C d m_PL_couple (0, [some (.ref a0), some (.int x1), l2], [], σ) = bkN C d m_PL_couple 4 [some (.ref a0), some (.int x1), l2] [.ref a0] (C m_PL_isWithin [.int x1, .int ((0 : Int32)), .int ((1 : Int32))] σ) := by
  refine (r_aloadn 0 (show decode (zb m_PL_couple) 0 = .ok (.aload_n 0, 1) from by decide +kernel) rfl).trans ?_
  refine (r_iloadn 1 (show decode (zb m_PL_couple) 1 = .ok (.iload_n 1, 1) from by decide +kernel) rfl).trans ?_
  refine (r_iconst (v := (0 : Int32)) (show decode (zb m_PL_couple) 2 = .ok (.iconst (0), 1) from by decide +kernel) (by decide)).trans ?_
  refine (r_iconst (v := (1 : Int32)) (show decode (zb m_PL_couple) 3 = .ok (.iconst (1), 1) from by decide +kernel) (by decide)).trans ?_
  exact r_stat (args := [.int x1, .int ((0 : Int32)), .int ((1 : Int32))]) (rest := [.ref a0]) (show decode (zb m_PL_couple) 4 = .ok (.invokestatic 177, 3) from by decide +kernel) rfl (by decide) rfl rfl
theorem b_PL_couple_7 {C : CF} {d : Nat} {σ : HP} {s0 : Int32} {r1 : Nat} {l0 : Option Value} {l1 : Option Value} {l2 : Option Value} (h1 : r1 % 64 = 11) : runF C d m_PL_couple (7, [l0, l1, l2], [.int s0, .ref r1], σ) = bk C d m_PL_couple 7 [l0, l1, l2] [] (C m_PL_needArgument [.ref r1, .int s0] σ) := by
  exact r_virt (args := [.int s0]) (rest := []) (show decode (zb m_PL_couple) 7 = .ok (.invokevirtual 181, 3) from by decide +kernel) rfl rfl rfl h1
theorem b_PL_couple_10 {C : CF} {d : Nat} {σ : HP} {a0 : Nat} {l1 : Option Value} {l2 : Option Value} (h1 : a0 % 64 = 11) (h2 : (gR σ a0 5).isSome = true) (h3 : (gR σ a0 1).isSome = true) (h4 : (dr (gR σ a0 5)) % 64 = 8) : runF C d m_PL_couple (10, [some (.ref a0), l1, l2], [], σ) = bk C d m_PL_couple 18 [some (.ref a0), l1, l2] [] (C m_Scales_bestCouple [.ref (dr (gR σ a0 5)), .ref (dr (gR σ a0 1))] σ) := by
  refine (r_aloadn 0 (show decode (zb m_PL_couple) 10 = .ok (.aload_n 0, 1) from by decide +kernel) rfl).trans ?_
  refine (r_getR (show decode (zb m_PL_couple) 11 = .ok (.getfield 43, 3) from by decide +kernel) rfl rfl h1 h2).trans ?_
  refine (r_aloadn 0 (show decode (zb m_PL_couple) 14 = .ok (.aload_n 0, 1) from by decide +kernel) rfl).trans ?_
  refine (r_getR (show decode (zb m_PL_couple) 15 = .ok (.getfield 19, 3) from by decide +kernel) rfl rfl h1 h3).trans ?_
  exact r_virt (args := [.ref (dr (gR σ a0 1))]) (rest := []) (show decode (zb m_PL_couple) 18 = .ok (.invokevirtual 301, 3) from by decide +kernel) rfl rfl rfl h4
theorem b_PL_couple_21 {C : CF} {d : Nat} {σ : HP} {s0 : Int32} {x1 : Int32} {l0 : Option Value} {l2 : Option Value}  : runF C d m_PL_couple (21, [l0, some (.int x1), l2], [.int s0], σ) = if x1 = 0 then runF C d m_PL_couple (31, [l0, some (.int x1), some (.int s0)], [], σ) else runF C d m_PL_couple (26, [l0, some (.int x1), some (.int s0)], [], σ) := by
  refine (r_istoren 2 (show decode (zb m_PL_couple) 21 = .ok (.istore_n 2, 1) from by decide +kernel) rfl).trans ?_
  refine (r_iloadn 1 (show decode (zb m_PL_couple) 22 = .ok (.iload_n 1, 1) from by decide +kernel) rfl).trans ?_
  exact r_if_eq 31 (show decode (zb m_PL_couple) 23 = .ok (.ifCond .eq (8), 3) from by decide +kernel) rfl
theorem b_PL_couple_26 {C : CF} {d : Nat} {σ : HP} {x2 : Int32} {l0 : Option Value} {l1 : Option Value}  : runF C d m_PL_couple (26, [l0, l1, some (.int x2)], [], σ) = if ¬ x2 = (-1 : Int32) then runF C d m_PL_couple (35, [l0, l1, some (.int x2)], [], σ) else runF C d m_PL_couple (31, [l0, l1, some (.int x2)], [], σ) := by
  refine (r_iloadn 2 (show decode (zb m_PL_couple) 26 = .ok (.iload_n 2, 1) from by decide +kernel) rfl).trans ?_
  refine (r_iconst (v := (-1 : Int32)) (show decode (zb m_PL_couple) 27 = .ok (.iconst (-1), 1) from by decide +kernel) (by decide)).trans ?_
  exact r_icmp_ne 35 (show decode (zb m_PL_couple) 28 = .ok (.if_icmp .ne (7), 3) from by decide +kernel) rfl
theorem b_PL_couple_31 {C : CF} {d : Nat} {σ : HP} {x2 : Int32} {l0 : Option Value} {l1 : Option Value}  : runF C d m_PL_couple (31, [l0, l1, some (.int x2)], [], σ) = runF C d m_PL_couple (54, [l0, l1, some (.int x2)], [.int x2], σ) := by
  refine (r_iloadn 2 (show decode (zb m_PL_couple) 31 = .ok (.iload_n 2, 1) from by decide +kernel) rfl).trans ?_
  exact r_goto 54 (show decode (zb m_PL_couple) 32 = .ok (.goto (22), 3) from by decide +kernel) rfl
theorem b_PL_couple_35 {C : CF} {d : Nat} {σ : HP} {a0 : Nat} {x2 : Int32} {l1 : Option Value} (h1 : a0 % 64 = 11) (h2 : (gR σ a0 5).isSome = true) (h3 : (gR σ a0 1).isSome = true) (h4 : (dr (gR σ a0 5)) % 64 = 8) : runF C d m_PL_couple (35, [some (.ref a0), l1, some (.int x2)], [], σ) = bk C d m_PL_couple 51 [some (.ref a0), l1, some (.int x2)] [] (C m_Scales_coupleApart [.ref (dr (gR σ a0 5)), .ref (dr (gR σ a0 1)), .int (x2 / (10 : Int32)), .int (p_rem x2 (10 : Int32))] σ) := by
  refine (r_aloadn 0 (show decode (zb m_PL_couple) 35 = .ok (.aload_n 0, 1) from by decide +kernel) rfl).trans ?_
  refine (r_getR (show decode (zb m_PL_couple) 36 = .ok (.getfield 43, 3) from by decide +kernel) rfl rfl h1 h2).trans ?_
  refine (r_aloadn 0 (show decode (zb m_PL_couple) 39 = .ok (.aload_n 0, 1) from by decide +kernel) rfl).trans ?_
  refine (r_getR (show decode (zb m_PL_couple) 40 = .ok (.getfield 19, 3) from by decide +kernel) rfl rfl h1 h3).trans ?_
  refine (r_iloadn 2 (show decode (zb m_PL_couple) 43 = .ok (.iload_n 2, 1) from by decide +kernel) rfl).trans ?_
  refine (r_bipush (v := (10 : Int32)) (show decode (zb m_PL_couple) 44 = .ok (.bipush (10), 2) from by decide +kernel) (by decide)).trans ?_
  refine (r_idiv (show decode (zb m_PL_couple) 46 = .ok (.idiv, 1) from by decide +kernel) (by decide)).trans ?_
  refine (r_iloadn 2 (show decode (zb m_PL_couple) 47 = .ok (.iload_n 2, 1) from by decide +kernel) rfl).trans ?_
  refine (r_bipush (v := (10 : Int32)) (show decode (zb m_PL_couple) 48 = .ok (.bipush (10), 2) from by decide +kernel) (by decide)).trans ?_
  refine (r_irem (show decode (zb m_PL_couple) 50 = .ok (.irem, 1) from by decide +kernel) (by decide)).trans ?_
  exact r_virt (args := [.ref (dr (gR σ a0 1)), .int (x2 / (10 : Int32)), .int (p_rem x2 (10 : Int32))]) (rest := []) (show decode (zb m_PL_couple) 51 = .ok (.invokevirtual 304, 3) from by decide +kernel) rfl rfl rfl h4
theorem b_PL_couple_54 {C : CF} {d : Nat} {σ : HP} {s0 : Int32} {l0 : Option Value} {l1 : Option Value} {l2 : Option Value}  : runF C d m_PL_couple (54, [l0, l1, l2], [.int s0], σ) = some (.inl (some (.int s0)), σ) := by
  exact r_iret (show decode (zb m_PL_couple) 54 = .ok (.ireturn, 1) from by decide +kernel) rfl rfl
theorem e_PL_meet {d : Nat} {σ : HP} {a0 : Nat} {x1 : Int32} : callF (d + 1) m_PL_meet [.ref a0, .int x1] σ = runF (callF d) d m_PL_meet (0, [some (.ref a0), some (.int x1), none, none], [], σ) := callF_in rfl rfl
theorem b_PL_meet_0 {C : CF} {d : Nat} {σ : HP} {a0 : Nat} {x1 : Int32} {l2 : Option Value} {l3 : Option Value}  : runF C d m_PL_meet (0, [some (.ref a0), some (.int x1), l2, l3], [], σ) = bkN C d m_PL_meet 4 [some (.ref a0), some (.int x1), l2, l3] [.ref a0] (C m_PL_isWithin [.int x1, .int ((0 : Int32)), .int ((1 : Int32))] σ) := by
  refine (r_aloadn 0 (show decode (zb m_PL_meet) 0 = .ok (.aload_n 0, 1) from by decide +kernel) rfl).trans ?_
  refine (r_iloadn 1 (show decode (zb m_PL_meet) 1 = .ok (.iload_n 1, 1) from by decide +kernel) rfl).trans ?_
  refine (r_iconst (v := (0 : Int32)) (show decode (zb m_PL_meet) 2 = .ok (.iconst (0), 1) from by decide +kernel) (by decide)).trans ?_
  refine (r_iconst (v := (1 : Int32)) (show decode (zb m_PL_meet) 3 = .ok (.iconst (1), 1) from by decide +kernel) (by decide)).trans ?_
  exact r_stat (args := [.int x1, .int ((0 : Int32)), .int ((1 : Int32))]) (rest := [.ref a0]) (show decode (zb m_PL_meet) 4 = .ok (.invokestatic 177, 3) from by decide +kernel) rfl (by decide) rfl rfl
theorem b_PL_meet_7 {C : CF} {d : Nat} {σ : HP} {s0 : Int32} {r1 : Nat} {l0 : Option Value} {l1 : Option Value} {l2 : Option Value} {l3 : Option Value} (h1 : r1 % 64 = 11) : runF C d m_PL_meet (7, [l0, l1, l2, l3], [.int s0, .ref r1], σ) = bk C d m_PL_meet 7 [l0, l1, l2, l3] [] (C m_PL_needArgument [.ref r1, .int s0] σ) := by
  exact r_virt (args := [.int s0]) (rest := []) (show decode (zb m_PL_meet) 7 = .ok (.invokevirtual 181, 3) from by decide +kernel) rfl rfl rfl h1
theorem b_PL_meet_10 {C : CF} {d : Nat} {σ : HP} {l0 : Option Value} {l1 : Option Value} {l2 : Option Value} {l3 : Option Value}  : runF C d m_PL_meet (10, [l0, l1, l2, l3], [], σ) = runF C d m_PL_meet (14, [l0, l1, some (.int ((0 : Int32))), some (.int ((1 : Int32)))], [], σ) := by
  refine (r_iconst (v := (0 : Int32)) (show decode (zb m_PL_meet) 10 = .ok (.iconst (0), 1) from by decide +kernel) (by decide)).trans ?_
  refine (r_istoren 2 (show decode (zb m_PL_meet) 11 = .ok (.istore_n 2, 1) from by decide +kernel) rfl).trans ?_
  refine (r_iconst (v := (1 : Int32)) (show decode (zb m_PL_meet) 12 = .ok (.iconst (1), 1) from by decide +kernel) (by decide)).trans ?_
  exact r_istoren 3 (show decode (zb m_PL_meet) 13 = .ok (.istore_n 3, 1) from by decide +kernel) rfl
theorem b_PL_meet_14 {C : CF} {d : Nat} {σ : HP} {x3 : Int32} {a0 : Nat} {l1 : Option Value} {l2 : Option Value} (h1 : a0 % 64 = 11) (h2 : (gR σ a0 1).isSome = true) (h3 : (dr (gR σ a0 1)) % 64 = 5) (h4 : (gR σ (dr (gR σ a0 1)) 0).isSome = true) (h5 : (dr (gR σ (dr (gR σ a0 1)) 0)) % 64 = 2) : runF C d m_PL_meet (14, [some (.ref a0), l1, l2, some (.int x3)], [], σ) = if (gI σ (dr (gR σ (dr (gR σ a0 1)) 0)) 0) ≤ x3 then runF C d m_PL_meet (55, [some (.ref a0), l1, l2, some (.int x3)], [], σ) else runF C d m_PL_meet (28, [some (.ref a0), l1, l2, some (.int x3)], [], σ) := by
  refine (r_iloadn 3 (show decode (zb m_PL_meet) 14 = .ok (.iload_n 3, 1) from by decide +kernel) rfl).trans ?_
  refine (r_aloadn 0 (show decode (zb m_PL_meet) 15 = .ok (.aload_n 0, 1) from by decide +kernel) rfl).trans ?_
  refine (r_getR (show decode (zb m_PL_meet) 16 = .ok (.getfield 19, 3) from by decide +kernel) rfl rfl h1 h2).trans ?_
  refine (r_getR (show decode (zb m_PL_meet) 19 = .ok (.getfield 138, 3) from by decide +kernel) rfl rfl h3 h4).trans ?_
  refine (r_getI (show decode (zb m_PL_meet) 22 = .ok (.getfield 185, 3) from by decide +kernel) rfl rfl h5).trans ?_
  exact r_icmp_ge 55 (show decode (zb m_PL_meet) 25 = .ok (.if_icmp .ge (30), 3) from by decide +kernel) rfl
theorem b_PL_meet_28 {C : CF} {d : Nat} {σ : HP} {a0 : Nat} {x3 : Int32} {l1 : Option Value} {l2 : Option Value} (h1 : a0 % 64 = 11) (h2 : (gR σ a0 1).isSome = true) (h3 : (dr (gR σ a0 1)) % 64 = 5) : runF C d m_PL_meet (28, [some (.ref a0), l1, l2, some (.int x3)], [], σ) = bk C d m_PL_meet 33 [some (.ref a0), l1, l2, some (.int x3)] [] (C m_Lift_walkAllTo [.ref (dr (gR σ a0 1)), .int x3] σ) := by
  refine (r_aloadn 0 (show decode (zb m_PL_meet) 28 = .ok (.aload_n 0, 1) from by decide +kernel) rfl).trans ?_
  refine (r_getR (show decode (zb m_PL_meet) 29 = .ok (.getfield 19, 3) from by decide +kernel) rfl rfl h1 h2).trans ?_
  refine (r_iloadn 3 (show decode (zb m_PL_meet) 32 = .ok (.iload_n 3, 1) from by decide +kernel) rfl).trans ?_
  exact r_virt (args := [.int x3]) (rest := []) (show decode (zb m_PL_meet) 33 = .ok (.invokevirtual 308, 3) from by decide +kernel) rfl rfl rfl h3
theorem b_PL_meet_36 {C : CF} {d : Nat} {σ : HP} {s0 : Int32} {a0 : Nat} {x2 : Int32} {l1 : Option Value} {l3 : Option Value} (h1 : a0 % 64 = 11) (h2 : (gR σ a0 1).isSome = true) (h3 : (dr (gR σ a0 1)) % 64 = 5) : runF C d m_PL_meet (36, [some (.ref a0), l1, some (.int x2), l3], [.int s0], σ) = bk C d m_PL_meet 41 [some (.ref a0), l1, some (.int x2), l3] [.int s0] (C m_Lift_walkAllTo [.ref (dr (gR σ a0 1)), .int x2] σ) := by
  refine (r_aloadn 0 (show decode (zb m_PL_meet) 36 = .ok (.aload_n 0, 1) from by decide +kernel) rfl).trans ?_
  refine (r_getR (show decode (zb m_PL_meet) 37 = .ok (.getfield 19, 3) from by decide +kernel) rfl rfl h1 h2).trans ?_
  refine (r_iloadn 2 (show decode (zb m_PL_meet) 40 = .ok (.iload_n 2, 1) from by decide +kernel) rfl).trans ?_
  exact r_virt (args := [.int x2]) (rest := [.int s0]) (show decode (zb m_PL_meet) 41 = .ok (.invokevirtual 308, 3) from by decide +kernel) rfl rfl rfl h3
theorem b_PL_meet_44 {C : CF} {d : Nat} {σ : HP} {s0 : Int32} {s1 : Int32} {l0 : Option Value} {l1 : Option Value} {l2 : Option Value} {l3 : Option Value}  : runF C d m_PL_meet (44, [l0, l1, l2, l3], [.int s0, .int s1], σ) = if s0 ≤ s1 then runF C d m_PL_meet (49, [l0, l1, l2, l3], [], σ) else runF C d m_PL_meet (47, [l0, l1, l2, l3], [], σ) := by
  exact r_icmp_ge 49 (show decode (zb m_PL_meet) 44 = .ok (.if_icmp .ge (5), 3) from by decide +kernel) rfl
theorem b_PL_meet_47 {C : CF} {d : Nat} {σ : HP} {x3 : Int32} {l0 : Option Value} {l1 : Option Value} {l2 : Option Value}  : runF C d m_PL_meet (47, [l0, l1, l2, some (.int x3)], [], σ) = runF C d m_PL_meet (49, [l0, l1, some (.int x3), some (.int x3)], [], σ) := by
  refine (r_iloadn 3 (show decode (zb m_PL_meet) 47 = .ok (.iload_n 3, 1) from by decide +kernel) rfl).trans ?_
  exact r_istoren 2 (show decode (zb m_PL_meet) 48 = .ok (.istore_n 2, 1) from by decide +kernel) rfl
theorem b_PL_meet_49 {C : CF} {d : Nat} {σ : HP} {x3 : Int32} {l0 : Option Value} {l1 : Option Value} {l2 : Option Value}  : runF C d m_PL_meet (49, [l0, l1, l2, some (.int x3)], [], σ) = runF C d m_PL_meet (14, [l0, l1, l2, some (.int (x3 + (1 : Int32)))], [], σ) := by
  refine (r_iinc 3 (v := (1 : Int32)) (show decode (zb m_PL_meet) 49 = .ok (.iinc 3 (1), 3) from by decide +kernel) rfl rfl (by decide)).trans ?_
  exact r_goto 14 (show decode (zb m_PL_meet) 52 = .ok (.goto (-38), 3) from by decide +kernel) rfl
theorem b_PL_meet_55 {C : CF} {d : Nat} {σ : HP} {x1 : Int32} {l0 : Option Value} {l2 : Option Value} {l3 : Option Value}  : runF C d m_PL_meet (55, [l0, some (.int x1), l2, l3], [], σ) = if ¬ x1 = 0 then runF C d m_PL_meet (63, [l0, some (.int x1), l2, l3], [], σ) else runF C d m_PL_meet (59, [l0, some (.int x1), l2, l3], [], σ) := by
  refine (r_iloadn 1 (show decode (zb m_PL_meet) 55 = .ok (.iload_n 1, 1) from by decide +kernel) rfl).trans ?_
  exact r_if_ne 63 (show decode (zb m_PL_meet) 56 = .ok (.ifCond .ne (7), 3) from by decide +kernel) rfl
theorem b_PL_meet_59 {C : CF} {d : Nat} {σ : HP} {x2 : Int32} {l0 : Option Value} {l1 : Option Value} {l3 : Option Value}  : runF C d m_PL_meet (59, [l0, l1, some (.int x2), l3], [], σ) = runF C d m_PL_meet (71, [l0, l1, some (.int x2), l3], [.int x2], σ) := by
  refine (r_iloadn 2 (show decode (zb m_PL_meet) 59 = .ok (.iload_n 2, 1) from by decide +kernel) rfl).trans ?_
  exact r_goto 71 (show decode (zb m_PL_meet) 60 = .ok (.goto (11), 3) from by decide +kernel) rfl
theorem b_PL_meet_63 {C : CF} {d : Nat} {σ : HP} {a0 : Nat} {x2 : Int32} {l1 : Option Value} {l3 : Option Value} (h1 : a0 % 64 = 11) (h2 : (gR σ a0 1).isSome = true) (h3 : (dr (gR σ a0 1)) % 64 = 5) : runF C d m_PL_meet (63, [some (.ref a0), l1, some (.int x2), l3], [], σ) = bk C d m_PL_meet 68 [some (.ref a0), l1, some (.int x2), l3] [] (C m_Lift_walkAllTo [.ref (dr (gR σ a0 1)), .int x2] σ) := by
  refine (r_aloadn 0 (show decode (zb m_PL_meet) 63 = .ok (.aload_n 0, 1) from by decide +kernel) rfl).trans ?_
  refine (r_getR (show decode (zb m_PL_meet) 64 = .ok (.getfield 19, 3) from by decide +kernel) rfl rfl h1 h2).trans ?_
  refine (r_iloadn 2 (show decode (zb m_PL_meet) 67 = .ok (.iload_n 2, 1) from by decide +kernel) rfl).trans ?_
  exact r_virt (args := [.int x2]) (rest := []) (show decode (zb m_PL_meet) 68 = .ok (.invokevirtual 308, 3) from by decide +kernel) rfl rfl rfl h3
theorem b_PL_meet_71 {C : CF} {d : Nat} {σ : HP} {s0 : Int32} {l0 : Option Value} {l1 : Option Value} {l2 : Option Value} {l3 : Option Value}  : runF C d m_PL_meet (71, [l0, l1, l2, l3], [.int s0], σ) = some (.inl (some (.int s0)), σ) := by
  exact r_iret (show decode (zb m_PL_meet) 71 = .ok (.ireturn, 1) from by decide +kernel) rfl rfl
theorem e_PL_cheapest {d : Nat} {σ : HP} {a0 : Nat} {x1 : Int32} : callF (d + 1) m_PL_cheapest [.ref a0, .int x1] σ = runF (callF d) d m_PL_cheapest (0, [some (.ref a0), some (.int x1)], [], σ) := callF_in rfl rfl
theorem b_PL_cheapest_0 {C : CF} {d : Nat} {σ : HP} {a0 : Nat} {x1 : Int32} (h1 : a0 % 64 = 11) : runF C d m_PL_cheapest (0, [some (.ref a0), some (.int x1)], [], σ) = bk C d m_PL_cheapest 2 [some (.ref a0), some (.int x1)] [] (C m_PL_needMan [.ref a0, .int x1] σ) := by
  refine (r_aloadn 0 (show decode (zb m_PL_cheapest) 0 = .ok (.aload_n 0, 1) from by decide +kernel) rfl).trans ?_
  refine (r_iloadn 1 (show decode (zb m_PL_cheapest) 1 = .ok (.iload_n 1, 1) from by decide +kernel) rfl).trans ?_
  exact r_virt (args := [.int x1]) (rest := []) (show decode (zb m_PL_cheapest) 2 = .ok (.invokevirtual 215, 3) from by decide +kernel) rfl rfl rfl h1
theorem b_PL_cheapest_5 {C : CF} {d : Nat} {σ : HP} {a0 : Nat} {x1 : Int32} (h1 : a0 % 64 = 11) (h2 : (gR σ a0 5).isSome = true) (h3 : (gR σ a0 1).isSome = true) (h4 : (dr (gR σ a0 5)) % 64 = 8) : runF C d m_PL_cheapest (5, [some (.ref a0), some (.int x1)], [], σ) = bk C d m_PL_cheapest 14 [some (.ref a0), some (.int x1)] [] (C m_Scales_cheapestCard [.ref (dr (gR σ a0 5)), .ref (dr (gR σ a0 1)), .int x1] σ) := by
  refine (r_aloadn 0 (show decode (zb m_PL_cheapest) 5 = .ok (.aload_n 0, 1) from by decide +kernel) rfl).trans ?_
  refine (r_getR (show decode (zb m_PL_cheapest) 6 = .ok (.getfield 43, 3) from by decide +kernel) rfl rfl h1 h2).trans ?_
  refine (r_aloadn 0 (show decode (zb m_PL_cheapest) 9 = .ok (.aload_n 0, 1) from by decide +kernel) rfl).trans ?_
  refine (r_getR (show decode (zb m_PL_cheapest) 10 = .ok (.getfield 19, 3) from by decide +kernel) rfl rfl h1 h3).trans ?_
  refine (r_iloadn 1 (show decode (zb m_PL_cheapest) 13 = .ok (.iload_n 1, 1) from by decide +kernel) rfl).trans ?_
  exact r_virt (args := [.ref (dr (gR σ a0 1)), .int x1]) (rest := []) (show decode (zb m_PL_cheapest) 14 = .ok (.invokevirtual 311, 3) from by decide +kernel) rfl rfl rfl h4
theorem b_PL_cheapest_17 {C : CF} {d : Nat} {σ : HP} {s0 : Int32} {l0 : Option Value} {l1 : Option Value}  : runF C d m_PL_cheapest (17, [l0, l1], [.int s0], σ) = some (.inl (some (.int s0)), σ) := by
  exact r_iret (show decode (zb m_PL_cheapest) 17 = .ok (.ireturn, 1) from by decide +kernel) rfl rfl
theorem e_PL_fits {d : Nat} {σ : HP} {a0 : Nat} {x1 : Int32} : callF (d + 1) m_PL_fits [.ref a0, .int x1] σ = runF (callF d) d m_PL_fits (0, [some (.ref a0), some (.int x1), none], [], σ) := callF_in rfl rfl
theorem b_PL_fits_0 {C : CF} {d : Nat} {σ : HP} {a0 : Nat} {x1 : Int32} {l2 : Option Value}  : runF C d m_PL_fits (0, [some (.ref a0), some (.int x1), l2], [], σ) = bkN C d m_PL_fits 4 [some (.ref a0), some (.int x1), l2] [.ref a0] (C m_PL_isWithin [.int x1, .int ((0 : Int32)), .int ((1 : Int32))] σ) := by
  refine (r_aloadn 0 (show decode (zb m_PL_fits) 0 = .ok (.aload_n 0, 1) from by decide +kernel) rfl).trans ?_
  refine (r_iloadn 1 (show decode (zb m_PL_fits) 1 = .ok (.iload_n 1, 1) from by decide +kernel) rfl).trans ?_
  refine (r_iconst (v := (0 : Int32)) (show decode (zb m_PL_fits) 2 = .ok (.iconst (0), 1) from by decide +kernel) (by decide)).trans ?_
  refine (r_iconst (v := (1 : Int32)) (show decode (zb m_PL_fits) 3 = .ok (.iconst (1), 1) from by decide +kernel) (by decide)).trans ?_
  exact r_stat (args := [.int x1, .int ((0 : Int32)), .int ((1 : Int32))]) (rest := [.ref a0]) (show decode (zb m_PL_fits) 4 = .ok (.invokestatic 177, 3) from by decide +kernel) rfl (by decide) rfl rfl
theorem b_PL_fits_7 {C : CF} {d : Nat} {σ : HP} {s0 : Int32} {r1 : Nat} {l0 : Option Value} {l1 : Option Value} {l2 : Option Value} (h1 : r1 % 64 = 11) : runF C d m_PL_fits (7, [l0, l1, l2], [.int s0, .ref r1], σ) = bk C d m_PL_fits 7 [l0, l1, l2] [] (C m_PL_needArgument [.ref r1, .int s0] σ) := by
  exact r_virt (args := [.int s0]) (rest := []) (show decode (zb m_PL_fits) 7 = .ok (.invokevirtual 181, 3) from by decide +kernel) rfl rfl rfl h1
theorem b_PL_fits_10 {C : CF} {d : Nat} {σ : HP} {a0 : Nat} {l1 : Option Value} {l2 : Option Value} (h1 : a0 % 64 = 11) (h2 : (gR σ a0 8).isSome = true) (h3 : (gR σ a0 1).isSome = true) (h4 : (dr (gR σ a0 8)) % 64 = 0) : runF C d m_PL_fits (10, [some (.ref a0), l1, l2], [], σ) = bk C d m_PL_fits 18 [some (.ref a0), l1, l2] [] (C m_Book_findPairs [.ref (dr (gR σ a0 8)), .ref (dr (gR σ a0 1))] σ) := by
  refine (r_aloadn 0 (show decode (zb m_PL_fits) 10 = .ok (.aload_n 0, 1) from by decide +kernel) rfl).trans ?_
  refine (r_getR (show decode (zb m_PL_fits) 11 = .ok (.getfield 64, 3) from by decide +kernel) rfl rfl h1 h2).trans ?_
  refine (r_aloadn 0 (show decode (zb m_PL_fits) 14 = .ok (.aload_n 0, 1) from by decide +kernel) rfl).trans ?_
  refine (r_getR (show decode (zb m_PL_fits) 15 = .ok (.getfield 19, 3) from by decide +kernel) rfl rfl h1 h3).trans ?_
  exact r_virt (args := [.ref (dr (gR σ a0 1))]) (rest := []) (show decode (zb m_PL_fits) 18 = .ok (.invokevirtual 314, 3) from by decide +kernel) rfl rfl rfl h4
theorem b_PL_fits_21 {C : CF} {d : Nat} {σ : HP} {s0 : Int32} {x1 : Int32} {l0 : Option Value} {l2 : Option Value}  : runF C d m_PL_fits (21, [l0, some (.int x1), l2], [.int s0], σ) = if ¬ x1 = 0 then runF C d m_PL_fits (28, [l0, some (.int x1), some (.int s0)], [], σ) else runF C d m_PL_fits (26, [l0, some (.int x1), some (.int s0)], [], σ) := by
  refine (r_istoren 2 (show decode (zb m_PL_fits) 21 = .ok (.istore_n 2, 1) from by decide +kernel) rfl).trans ?_
  refine (r_iloadn 1 (show decode (zb m_PL_fits) 22 = .ok (.iload_n 1, 1) from by decide +kernel) rfl).trans ?_
  exact r_if_ne 28 (show decode (zb m_PL_fits) 23 = .ok (.ifCond .ne (5), 3) from by decide +kernel) rfl
theorem b_PL_fits_26 {C : CF} {d : Nat} {σ : HP} {x2 : Int32} {l0 : Option Value} {l1 : Option Value}  : runF C d m_PL_fits (26, [l0, l1, some (.int x2)], [], σ) = some (.inl (some (.int x2)), σ) := by
  refine (r_iloadn 2 (show decode (zb m_PL_fits) 26 = .ok (.iload_n 2, 1) from by decide +kernel) rfl).trans ?_
  exact r_iret (show decode (zb m_PL_fits) 27 = .ok (.ireturn, 1) from by decide +kernel) rfl rfl
theorem b_PL_fits_28 {C : CF} {d : Nat} {σ : HP} {x2 : Int32} {l0 : Option Value} {l1 : Option Value}  : runF C d m_PL_fits (28, [l0, l1, some (.int x2)], [], σ) = if ¬ x2 = 0 then runF C d m_PL_fits (36, [l0, l1, some (.int x2)], [], σ) else runF C d m_PL_fits (32, [l0, l1, some (.int x2)], [], σ) := by
  refine (r_iloadn 2 (show decode (zb m_PL_fits) 28 = .ok (.iload_n 2, 1) from by decide +kernel) rfl).trans ?_
  exact r_if_ne 36 (show decode (zb m_PL_fits) 29 = .ok (.ifCond .ne (7), 3) from by decide +kernel) rfl
theorem b_PL_fits_32 {C : CF} {d : Nat} {σ : HP} {l0 : Option Value} {l1 : Option Value} {l2 : Option Value}  : runF C d m_PL_fits (32, [l0, l1, l2], [], σ) = runF C d m_PL_fits (43, [l0, l1, l2], [.int ((-1 : Int32))], σ) := by
  refine (r_iconst (v := (-1 : Int32)) (show decode (zb m_PL_fits) 32 = .ok (.iconst (-1), 1) from by decide +kernel) (by decide)).trans ?_
  exact r_goto 43 (show decode (zb m_PL_fits) 33 = .ok (.goto (10), 3) from by decide +kernel) rfl
theorem b_PL_fits_36 {C : CF} {d : Nat} {σ : HP} {a0 : Nat} {l1 : Option Value} {l2 : Option Value} (h1 : a0 % 64 = 11) (h2 : (gR σ a0 8).isSome = true) (h3 : (dr (gR σ a0 8)) % 64 = 0) : runF C d m_PL_fits (36, [some (.ref a0), l1, l2], [], σ) = bk C d m_PL_fits 40 [some (.ref a0), l1, l2] [] (C m_Book_firstPair [.ref (dr (gR σ a0 8))] σ) := by
  refine (r_aloadn 0 (show decode (zb m_PL_fits) 36 = .ok (.aload_n 0, 1) from by decide +kernel) rfl).trans ?_
  refine (r_getR (show decode (zb m_PL_fits) 37 = .ok (.getfield 64, 3) from by decide +kernel) rfl rfl h1 h2).trans ?_
  exact r_virt (args := []) (rest := []) (show decode (zb m_PL_fits) 40 = .ok (.invokevirtual 317, 3) from by decide +kernel) rfl rfl rfl h3
theorem b_PL_fits_43 {C : CF} {d : Nat} {σ : HP} {s0 : Int32} {l0 : Option Value} {l1 : Option Value} {l2 : Option Value}  : runF C d m_PL_fits (43, [l0, l1, l2], [.int s0], σ) = some (.inl (some (.int s0)), σ) := by
  exact r_iret (show decode (zb m_PL_fits) 43 = .ok (.ireturn, 1) from by decide +kernel) rfl rfl
theorem e_PL_look {d : Nat} {σ : HP} {a0 : Nat} {x1 : Int32} : callF (d + 1) m_PL_look [.ref a0, .int x1] σ = runF (callF d) d m_PL_look (0, [some (.ref a0), some (.int x1), none, none, none, none], [], σ) := callF_in rfl rfl
theorem b_PL_look_0 {C : CF} {d : Nat} {σ : HP} {a0 : Nat} {x1 : Int32} {l2 : Option Value} {l3 : Option Value} {l4 : Option Value} {l5 : Option Value}  : runF C d m_PL_look (0, [some (.ref a0), some (.int x1), l2, l3, l4, l5], [], σ) = bkN C d m_PL_look 4 [some (.ref a0), some (.int x1), l2, l3, l4, l5] [.ref a0] (C m_PL_isWithin [.int x1, .int ((0 : Int32)), .int ((1 : Int32))] σ) := by
  refine (r_aloadn 0 (show decode (zb m_PL_look) 0 = .ok (.aload_n 0, 1) from by decide +kernel) rfl).trans ?_
  refine (r_iloadn 1 (show decode (zb m_PL_look) 1 = .ok (.iload_n 1, 1) from by decide +kernel) rfl).trans ?_
  refine (r_iconst (v := (0 : Int32)) (show decode (zb m_PL_look) 2 = .ok (.iconst (0), 1) from by decide +kernel) (by decide)).trans ?_
  refine (r_iconst (v := (1 : Int32)) (show decode (zb m_PL_look) 3 = .ok (.iconst (1), 1) from by decide +kernel) (by decide)).trans ?_
  exact r_stat (args := [.int x1, .int ((0 : Int32)), .int ((1 : Int32))]) (rest := [.ref a0]) (show decode (zb m_PL_look) 4 = .ok (.invokestatic 177, 3) from by decide +kernel) rfl (by decide) rfl rfl
theorem b_PL_look_7 {C : CF} {d : Nat} {σ : HP} {s0 : Int32} {r1 : Nat} {l0 : Option Value} {l1 : Option Value} {l2 : Option Value} {l3 : Option Value} {l4 : Option Value} {l5 : Option Value} (h1 : r1 % 64 = 11) : runF C d m_PL_look (7, [l0, l1, l2, l3, l4, l5], [.int s0, .ref r1], σ) = bk C d m_PL_look 7 [l0, l1, l2, l3, l4, l5] [] (C m_PL_needArgument [.ref r1, .int s0] σ) := by
  exact r_virt (args := [.int s0]) (rest := []) (show decode (zb m_PL_look) 7 = .ok (.invokevirtual 181, 3) from by decide +kernel) rfl rfl rfl h1
theorem b_PL_look_10 {C : CF} {d : Nat} {σ : HP} {a0 : Nat} {l1 : Option Value} {l2 : Option Value} {l3 : Option Value} {l4 : Option Value} {l5 : Option Value} (h1 : a0 % 64 = 11) (h2 : (gR σ a0 8).isSome = true) (h3 : (gR σ a0 1).isSome = true) (h4 : (dr (gR σ a0 8)) % 64 = 0) : runF C d m_PL_look (10, [some (.ref a0), l1, l2, l3, l4, l5], [], σ) = bk C d m_PL_look 18 [some (.ref a0), l1, l2, l3, l4, l5] [] (C m_Book_findPairs [.ref (dr (gR σ a0 8)), .ref (dr (gR σ a0 1))] σ) := by
  refine (r_aloadn 0 (show decode (zb m_PL_look) 10 = .ok (.aload_n 0, 1) from by decide +kernel) rfl).trans ?_
  refine (r_getR (show decode (zb m_PL_look) 11 = .ok (.getfield 64, 3) from by decide +kernel) rfl rfl h1 h2).trans ?_
  refine (r_aloadn 0 (show decode (zb m_PL_look) 14 = .ok (.aload_n 0, 1) from by decide +kernel) rfl).trans ?_
  refine (r_getR (show decode (zb m_PL_look) 15 = .ok (.getfield 19, 3) from by decide +kernel) rfl rfl h1 h3).trans ?_
  exact r_virt (args := [.ref (dr (gR σ a0 1))]) (rest := []) (show decode (zb m_PL_look) 18 = .ok (.invokevirtual 314, 3) from by decide +kernel) rfl rfl rfl h4
theorem b_PL_look_21 {C : CF} {d : Nat} {σ : HP} {s0 : Int32} {l0 : Option Value} {l1 : Option Value} {l2 : Option Value} {l3 : Option Value} {l4 : Option Value} {l5 : Option Value}  : runF C d m_PL_look (21, [l0, l1, l2, l3, l4, l5], [.int s0], σ) = runF C d m_PL_look (29, [l0, l1, some (.int ((-1 : Int32))), some (.int ((-1 : Int32))), some (.int ((0 : Int32))), l5], [], σ) := by
  refine (r_popI (show decode (zb m_PL_look) 21 = .ok (.pop, 1) from by decide +kernel)).trans ?_
  refine (r_iconst (v := (-1 : Int32)) (show decode (zb m_PL_look) 22 = .ok (.iconst (-1), 1) from by decide +kernel) (by decide)).trans ?_
  refine (r_istoren 2 (show decode (zb m_PL_look) 23 = .ok (.istore_n 2, 1) from by decide +kernel) rfl).trans ?_
  refine (r_iconst (v := (-1 : Int32)) (show decode (zb m_PL_look) 24 = .ok (.iconst (-1), 1) from by decide +kernel) (by decide)).trans ?_
  refine (r_istoren 3 (show decode (zb m_PL_look) 25 = .ok (.istore_n 3, 1) from by decide +kernel) rfl).trans ?_
  refine (r_iconst (v := (0 : Int32)) (show decode (zb m_PL_look) 26 = .ok (.iconst (0), 1) from by decide +kernel) (by decide)).trans ?_
  exact r_istore 4 (show decode (zb m_PL_look) 27 = .ok (.istore 4, 2) from by decide +kernel) rfl
theorem b_PL_look_29 {C : CF} {d : Nat} {σ : HP} {x4 : Int32} {a0 : Nat} {l1 : Option Value} {l2 : Option Value} {l3 : Option Value} {l5 : Option Value} (h1 : a0 % 64 = 11) (h2 : (gR σ a0 1).isSome = true) (h3 : (dr (gR σ a0 1)) % 64 = 5) (h4 : (gR σ (dr (gR σ a0 1)) 0).isSome = true) (h5 : (dr (gR σ (dr (gR σ a0 1)) 0)) % 64 = 2) : runF C d m_PL_look (29, [some (.ref a0), l1, l2, l3, some (.int x4), l5], [], σ) = if (gI σ (dr (gR σ (dr (gR σ a0 1)) 0)) 1) ≤ x4 then runF C d m_PL_look (102, [some (.ref a0), l1, l2, l3, some (.int x4), l5], [], σ) else runF C d m_PL_look (44, [some (.ref a0), l1, l2, l3, some (.int x4), l5], [], σ) := by
  refine (r_iload 4 (show decode (zb m_PL_look) 29 = .ok (.iload 4, 2) from by decide +kernel) rfl).trans ?_
  refine (r_aloadn 0 (show decode (zb m_PL_look) 31 = .ok (.aload_n 0, 1) from by decide +kernel) rfl).trans ?_
  refine (r_getR (show decode (zb m_PL_look) 32 = .ok (.getfield 19, 3) from by decide +kernel) rfl rfl h1 h2).trans ?_
  refine (r_getR (show decode (zb m_PL_look) 35 = .ok (.getfield 138, 3) from by decide +kernel) rfl rfl h3 h4).trans ?_
  refine (r_getI (show decode (zb m_PL_look) 38 = .ok (.getfield 116, 3) from by decide +kernel) rfl rfl h5).trans ?_
  exact r_icmp_ge 102 (show decode (zb m_PL_look) 41 = .ok (.if_icmp .ge (61), 3) from by decide +kernel) rfl
theorem b_PL_look_44 {C : CF} {d : Nat} {σ : HP} {a0 : Nat} {x4 : Int32} {l1 : Option Value} {l2 : Option Value} {l3 : Option Value} {l5 : Option Value} (h1 : a0 % 64 = 11) (h2 : (gR σ a0 8).isSome = true) (h3 : (dr (gR σ a0 8)) % 64 = 0) : runF C d m_PL_look (44, [some (.ref a0), l1, l2, l3, some (.int x4), l5], [], σ) = bk C d m_PL_look 50 [some (.ref a0), l1, l2, l3, some (.int x4), l5] [] (C m_Book_hasLine [.ref (dr (gR σ a0 8)), .int x4] σ) := by
  refine (r_aloadn 0 (show decode (zb m_PL_look) 44 = .ok (.aload_n 0, 1) from by decide +kernel) rfl).trans ?_
  refine (r_getR (show decode (zb m_PL_look) 45 = .ok (.getfield 64, 3) from by decide +kernel) rfl rfl h1 h2).trans ?_
  refine (r_iload 4 (show decode (zb m_PL_look) 48 = .ok (.iload 4, 2) from by decide +kernel) rfl).trans ?_
  exact r_virt (args := [.int x4]) (rest := []) (show decode (zb m_PL_look) 50 = .ok (.invokevirtual 320, 3) from by decide +kernel) rfl rfl rfl h3
theorem b_PL_look_53 {C : CF} {d : Nat} {σ : HP} {s0 : Int32} {l0 : Option Value} {l1 : Option Value} {l2 : Option Value} {l3 : Option Value} {l4 : Option Value} {l5 : Option Value}  : runF C d m_PL_look (53, [l0, l1, l2, l3, l4, l5], [.int s0], σ) = if s0 = 0 then runF C d m_PL_look (59, [l0, l1, l2, l3, l4, l5], [], σ) else runF C d m_PL_look (56, [l0, l1, l2, l3, l4, l5], [], σ) := by
  exact r_if_eq 59 (show decode (zb m_PL_look) 53 = .ok (.ifCond .eq (6), 3) from by decide +kernel) rfl
theorem b_PL_look_56 {C : CF} {d : Nat} {σ : HP} {l0 : Option Value} {l1 : Option Value} {l2 : Option Value} {l3 : Option Value} {l4 : Option Value} {l5 : Option Value}  : runF C d m_PL_look (56, [l0, l1, l2, l3, l4, l5], [], σ) = runF C d m_PL_look (96, [l0, l1, l2, l3, l4, l5], [], σ) := by
  exact r_goto 96 (show decode (zb m_PL_look) 56 = .ok (.goto (40), 3) from by decide +kernel) rfl
theorem b_PL_look_59 {C : CF} {d : Nat} {σ : HP} {a0 : Nat} {x4 : Int32} {l1 : Option Value} {l2 : Option Value} {l3 : Option Value} {l5 : Option Value} (h1 : a0 % 64 = 11) (h2 : (gR σ a0 8).isSome = true) (h3 : (gR σ a0 1).isSome = true) (h4 : (dr (gR σ a0 1)) % 64 = 5) : runF C d m_PL_look (59, [some (.ref a0), l1, l2, l3, some (.int x4), l5], [], σ) = bk C d m_PL_look 71 [some (.ref a0), l1, l2, l3, some (.int x4), l5] [.int x4, .ref (dr (gR σ a0 8))] (C m_Lift_heavyOf [.ref (dr (gR σ a0 1)), .int x4] σ) := by
  refine (r_aloadn 0 (show decode (zb m_PL_look) 59 = .ok (.aload_n 0, 1) from by decide +kernel) rfl).trans ?_
  refine (r_getR (show decode (zb m_PL_look) 60 = .ok (.getfield 64, 3) from by decide +kernel) rfl rfl h1 h2).trans ?_
  refine (r_iload 4 (show decode (zb m_PL_look) 63 = .ok (.iload 4, 2) from by decide +kernel) rfl).trans ?_
  refine (r_aloadn 0 (show decode (zb m_PL_look) 65 = .ok (.aload_n 0, 1) from by decide +kernel) rfl).trans ?_
  refine (r_getR (show decode (zb m_PL_look) 66 = .ok (.getfield 19, 3) from by decide +kernel) rfl rfl h1 h3).trans ?_
  refine (r_iload 4 (show decode (zb m_PL_look) 69 = .ok (.iload 4, 2) from by decide +kernel) rfl).trans ?_
  exact r_virt (args := [.int x4]) (rest := [.int x4, .ref (dr (gR σ a0 8))]) (show decode (zb m_PL_look) 71 = .ok (.invokevirtual 235, 3) from by decide +kernel) rfl rfl rfl h4
theorem b_PL_look_74 {C : CF} {d : Nat} {σ : HP} {s0 : Int32} {s1 : Int32} {r2 : Nat} {l0 : Option Value} {l1 : Option Value} {l2 : Option Value} {l3 : Option Value} {l4 : Option Value} {l5 : Option Value} (h1 : r2 % 64 = 0) : runF C d m_PL_look (74, [l0, l1, l2, l3, l4, l5], [.int s0, .int s1, .ref r2], σ) = bk C d m_PL_look 74 [l0, l1, l2, l3, l4, l5] [] (C m_Book_leftAtWorst [.ref r2, .int s1, .int s0] σ) := by
  exact r_virt (args := [.int s1, .int s0]) (rest := []) (show decode (zb m_PL_look) 74 = .ok (.invokevirtual 323, 3) from by decide +kernel) rfl rfl rfl h1
theorem b_PL_look_77 {C : CF} {d : Nat} {σ : HP} {s0 : Int32} {x2 : Int32} {l0 : Option Value} {l1 : Option Value} {l3 : Option Value} {l4 : Option Value} {l5 : Option Value}  : runF C d m_PL_look (77, [l0, l1, some (.int x2), l3, l4, l5], [.int s0], σ) = if x2 = (-1 : Int32) then runF C d m_PL_look (90, [l0, l1, some (.int x2), l3, l4, some (.int s0)], [], σ) else runF C d m_PL_look (84, [l0, l1, some (.int x2), l3, l4, some (.int s0)], [], σ) := by
  refine (r_istore 5 (show decode (zb m_PL_look) 77 = .ok (.istore 5, 2) from by decide +kernel) rfl).trans ?_
  refine (r_iloadn 2 (show decode (zb m_PL_look) 79 = .ok (.iload_n 2, 1) from by decide +kernel) rfl).trans ?_
  refine (r_iconst (v := (-1 : Int32)) (show decode (zb m_PL_look) 80 = .ok (.iconst (-1), 1) from by decide +kernel) (by decide)).trans ?_
  exact r_icmp_eq 90 (show decode (zb m_PL_look) 81 = .ok (.if_icmp .eq (9), 3) from by decide +kernel) rfl
theorem b_PL_look_84 {C : CF} {d : Nat} {σ : HP} {x5 : Int32} {x3 : Int32} {l0 : Option Value} {l1 : Option Value} {l2 : Option Value} {l4 : Option Value}  : runF C d m_PL_look (84, [l0, l1, l2, some (.int x3), l4, some (.int x5)], [], σ) = if x3 ≤ x5 then runF C d m_PL_look (96, [l0, l1, l2, some (.int x3), l4, some (.int x5)], [], σ) else runF C d m_PL_look (90, [l0, l1, l2, some (.int x3), l4, some (.int x5)], [], σ) := by
  refine (r_iload 5 (show decode (zb m_PL_look) 84 = .ok (.iload 5, 2) from by decide +kernel) rfl).trans ?_
  refine (r_iloadn 3 (show decode (zb m_PL_look) 86 = .ok (.iload_n 3, 1) from by decide +kernel) rfl).trans ?_
  exact r_icmp_ge 96 (show decode (zb m_PL_look) 87 = .ok (.if_icmp .ge (9), 3) from by decide +kernel) rfl
theorem b_PL_look_90 {C : CF} {d : Nat} {σ : HP} {x4 : Int32} {x5 : Int32} {l0 : Option Value} {l1 : Option Value} {l2 : Option Value} {l3 : Option Value}  : runF C d m_PL_look (90, [l0, l1, l2, l3, some (.int x4), some (.int x5)], [], σ) = runF C d m_PL_look (96, [l0, l1, some (.int x4), some (.int x5), some (.int x4), some (.int x5)], [], σ) := by
  refine (r_iload 4 (show decode (zb m_PL_look) 90 = .ok (.iload 4, 2) from by decide +kernel) rfl).trans ?_
  refine (r_istoren 2 (show decode (zb m_PL_look) 92 = .ok (.istore_n 2, 1) from by decide +kernel) rfl).trans ?_
  refine (r_iload 5 (show decode (zb m_PL_look) 93 = .ok (.iload 5, 2) from by decide +kernel) rfl).trans ?_
  exact r_istoren 3 (show decode (zb m_PL_look) 95 = .ok (.istore_n 3, 1) from by decide +kernel) rfl
theorem b_PL_look_96 {C : CF} {d : Nat} {σ : HP} {x4 : Int32} {l0 : Option Value} {l1 : Option Value} {l2 : Option Value} {l3 : Option Value} {l5 : Option Value}  : runF C d m_PL_look (96, [l0, l1, l2, l3, some (.int x4), l5], [], σ) = runF C d m_PL_look (29, [l0, l1, l2, l3, some (.int (x4 + (1 : Int32))), l5], [], σ) := by
  refine (r_iinc 4 (v := (1 : Int32)) (show decode (zb m_PL_look) 96 = .ok (.iinc 4 (1), 3) from by decide +kernel) rfl rfl (by decide)).trans ?_
  exact r_goto 29 (show decode (zb m_PL_look) 99 = .ok (.goto (-70), 3) from by decide +kernel) rfl
theorem b_PL_look_102 {C : CF} {d : Nat} {σ : HP} {x1 : Int32} {l0 : Option Value} {l2 : Option Value} {l3 : Option Value} {l4 : Option Value} {l5 : Option Value}  : runF C d m_PL_look (102, [l0, some (.int x1), l2, l3, l4, l5], [], σ) = if ¬ x1 = 0 then runF C d m_PL_look (110, [l0, some (.int x1), l2, l3, l4, l5], [], σ) else runF C d m_PL_look (106, [l0, some (.int x1), l2, l3, l4, l5], [], σ) := by
  refine (r_iloadn 1 (show decode (zb m_PL_look) 102 = .ok (.iload_n 1, 1) from by decide +kernel) rfl).trans ?_
  exact r_if_ne 110 (show decode (zb m_PL_look) 103 = .ok (.ifCond .ne (7), 3) from by decide +kernel) rfl
theorem b_PL_look_106 {C : CF} {d : Nat} {σ : HP} {x2 : Int32} {l0 : Option Value} {l1 : Option Value} {l3 : Option Value} {l4 : Option Value} {l5 : Option Value}  : runF C d m_PL_look (106, [l0, l1, some (.int x2), l3, l4, l5], [], σ) = runF C d m_PL_look (111, [l0, l1, some (.int x2), l3, l4, l5], [.int x2], σ) := by
  refine (r_iloadn 2 (show decode (zb m_PL_look) 106 = .ok (.iload_n 2, 1) from by decide +kernel) rfl).trans ?_
  exact r_goto 111 (show decode (zb m_PL_look) 107 = .ok (.goto (4), 3) from by decide +kernel) rfl
theorem b_PL_look_110 {C : CF} {d : Nat} {σ : HP} {x3 : Int32} {l0 : Option Value} {l1 : Option Value} {l2 : Option Value} {l4 : Option Value} {l5 : Option Value}  : runF C d m_PL_look (110, [l0, l1, l2, some (.int x3), l4, l5], [], σ) = runF C d m_PL_look (111, [l0, l1, l2, some (.int x3), l4, l5], [.int x3], σ) := by
  exact r_iloadn 3 (show decode (zb m_PL_look) 110 = .ok (.iload_n 3, 1) from by decide +kernel) rfl
theorem b_PL_look_111 {C : CF} {d : Nat} {σ : HP} {s0 : Int32} {l0 : Option Value} {l1 : Option Value} {l2 : Option Value} {l3 : Option Value} {l4 : Option Value} {l5 : Option Value}  : runF C d m_PL_look (111, [l0, l1, l2, l3, l4, l5], [.int s0], σ) = some (.inl (some (.int s0)), σ) := by
  exact r_iret (show decode (zb m_PL_look) 111 = .ok (.ireturn, 1) from by decide +kernel) rfl rfl
theorem e_PL_streak {d : Nat} {σ : HP} {a0 : Nat} {x1 : Int32} {x2 : Int32} {x3 : Int32} {x4 : Int32} : callF (d + 1) m_PL_streak [.ref a0, .int x1, .int x2, .int x3, .int x4] σ = runF (callF d) d m_PL_streak (0, [some (.ref a0), some (.int x1), some (.int x2), some (.int x3), some (.int x4), none, none, none, none, none], [], σ) := callF_in rfl rfl
theorem b_PL_streak_0 {C : CF} {d : Nat} {σ : HP} {a0 : Nat} {x1 : Int32} {l2 : Option Value} {l3 : Option Value} {l4 : Option Value} {l5 : Option Value} {l6 : Option Value} {l7 : Option Value} {l8 : Option Value} {l9 : Option Value}  : runF C d m_PL_streak (0, [some (.ref a0), some (.int x1), l2, l3, l4, l5, l6, l7, l8, l9], [], σ) = bkN C d m_PL_streak 5 [some (.ref a0), some (.int x1), l2, l3, l4, l5, l6, l7, l8, l9] [.ref a0] (C m_PL_isWithin [.int x1, .int ((0 : Int32)), .int ((12 : Int32))] σ) := by
  refine (r_aloadn 0 (show decode (zb m_PL_streak) 0 = .ok (.aload_n 0, 1) from by decide +kernel) rfl).trans ?_
  refine (r_iloadn 1 (show decode (zb m_PL_streak) 1 = .ok (.iload_n 1, 1) from by decide +kernel) rfl).trans ?_
  refine (r_iconst (v := (0 : Int32)) (show decode (zb m_PL_streak) 2 = .ok (.iconst (0), 1) from by decide +kernel) (by decide)).trans ?_
  refine (r_bipush (v := (12 : Int32)) (show decode (zb m_PL_streak) 3 = .ok (.bipush (12), 2) from by decide +kernel) (by decide)).trans ?_
  exact r_stat (args := [.int x1, .int ((0 : Int32)), .int ((12 : Int32))]) (rest := [.ref a0]) (show decode (zb m_PL_streak) 5 = .ok (.invokestatic 177, 3) from by decide +kernel) rfl (by decide) rfl rfl
theorem b_PL_streak_8 {C : CF} {d : Nat} {σ : HP} {s0 : Int32} {r1 : Nat} {l0 : Option Value} {l1 : Option Value} {l2 : Option Value} {l3 : Option Value} {l4 : Option Value} {l5 : Option Value} {l6 : Option Value} {l7 : Option Value} {l8 : Option Value} {l9 : Option Value} (h1 : r1 % 64 = 11) : runF C d m_PL_streak (8, [l0, l1, l2, l3, l4, l5, l6, l7, l8, l9], [.int s0, .ref r1], σ) = bk C d m_PL_streak 8 [l0, l1, l2, l3, l4, l5, l6, l7, l8, l9] [] (C m_PL_needArgument [.ref r1, .int s0] σ) := by
  exact r_virt (args := [.int s0]) (rest := []) (show decode (zb m_PL_streak) 8 = .ok (.invokevirtual 181, 3) from by decide +kernel) rfl rfl rfl h1
theorem b_PL_streak_11 {C : CF} {d : Nat} {σ : HP} {a0 : Nat} {x2 : Int32} {l1 : Option Value} {l3 : Option Value} {l4 : Option Value} {l5 : Option Value} {l6 : Option Value} {l7 : Option Value} {l8 : Option Value} {l9 : Option Value}  : runF C d m_PL_streak (11, [some (.ref a0), l1, some (.int x2), l3, l4, l5, l6, l7, l8, l9], [], σ) = bkN C d m_PL_streak 16 [some (.ref a0), l1, some (.int x2), l3, l4, l5, l6, l7, l8, l9] [.ref a0] (C m_PL_isWithin [.int x2, .int ((1 : Int32)), .int ((12 : Int32))] σ) := by
  refine (r_aloadn 0 (show decode (zb m_PL_streak) 11 = .ok (.aload_n 0, 1) from by decide +kernel) rfl).trans ?_
  refine (r_iloadn 2 (show decode (zb m_PL_streak) 12 = .ok (.iload_n 2, 1) from by decide +kernel) rfl).trans ?_
  refine (r_iconst (v := (1 : Int32)) (show decode (zb m_PL_streak) 13 = .ok (.iconst (1), 1) from by decide +kernel) (by decide)).trans ?_
  refine (r_bipush (v := (12 : Int32)) (show decode (zb m_PL_streak) 14 = .ok (.bipush (12), 2) from by decide +kernel) (by decide)).trans ?_
  exact r_stat (args := [.int x2, .int ((1 : Int32)), .int ((12 : Int32))]) (rest := [.ref a0]) (show decode (zb m_PL_streak) 16 = .ok (.invokestatic 177, 3) from by decide +kernel) rfl (by decide) rfl rfl
theorem b_PL_streak_19 {C : CF} {d : Nat} {σ : HP} {s0 : Int32} {r1 : Nat} {l0 : Option Value} {l1 : Option Value} {l2 : Option Value} {l3 : Option Value} {l4 : Option Value} {l5 : Option Value} {l6 : Option Value} {l7 : Option Value} {l8 : Option Value} {l9 : Option Value} (h1 : r1 % 64 = 11) : runF C d m_PL_streak (19, [l0, l1, l2, l3, l4, l5, l6, l7, l8, l9], [.int s0, .ref r1], σ) = bk C d m_PL_streak 19 [l0, l1, l2, l3, l4, l5, l6, l7, l8, l9] [] (C m_PL_needArgument [.ref r1, .int s0] σ) := by
  exact r_virt (args := [.int s0]) (rest := []) (show decode (zb m_PL_streak) 19 = .ok (.invokevirtual 181, 3) from by decide +kernel) rfl rfl rfl h1
theorem b_PL_streak_22 {C : CF} {d : Nat} {σ : HP} {a0 : Nat} {x3 : Int32} {l1 : Option Value} {l2 : Option Value} {l4 : Option Value} {l5 : Option Value} {l6 : Option Value} {l7 : Option Value} {l8 : Option Value} {l9 : Option Value}  : runF C d m_PL_streak (22, [some (.ref a0), l1, l2, some (.int x3), l4, l5, l6, l7, l8, l9], [], σ) = bkN C d m_PL_streak 27 [some (.ref a0), l1, l2, some (.int x3), l4, l5, l6, l7, l8, l9] [.ref a0] (C m_PL_isWithin [.int x3, .int ((0 : Int32)), .int ((16 : Int32))] σ) := by
  refine (r_aloadn 0 (show decode (zb m_PL_streak) 22 = .ok (.aload_n 0, 1) from by decide +kernel) rfl).trans ?_
  refine (r_iloadn 3 (show decode (zb m_PL_streak) 23 = .ok (.iload_n 3, 1) from by decide +kernel) rfl).trans ?_
  refine (r_iconst (v := (0 : Int32)) (show decode (zb m_PL_streak) 24 = .ok (.iconst (0), 1) from by decide +kernel) (by decide)).trans ?_
  refine (r_bipush (v := (16 : Int32)) (show decode (zb m_PL_streak) 25 = .ok (.bipush (16), 2) from by decide +kernel) (by decide)).trans ?_
  exact r_stat (args := [.int x3, .int ((0 : Int32)), .int ((16 : Int32))]) (rest := [.ref a0]) (show decode (zb m_PL_streak) 27 = .ok (.invokestatic 177, 3) from by decide +kernel) rfl (by decide) rfl rfl
theorem b_PL_streak_30 {C : CF} {d : Nat} {σ : HP} {s0 : Int32} {r1 : Nat} {l0 : Option Value} {l1 : Option Value} {l2 : Option Value} {l3 : Option Value} {l4 : Option Value} {l5 : Option Value} {l6 : Option Value} {l7 : Option Value} {l8 : Option Value} {l9 : Option Value} (h1 : r1 % 64 = 11) : runF C d m_PL_streak (30, [l0, l1, l2, l3, l4, l5, l6, l7, l8, l9], [.int s0, .ref r1], σ) = bk C d m_PL_streak 30 [l0, l1, l2, l3, l4, l5, l6, l7, l8, l9] [] (C m_PL_needArgument [.ref r1, .int s0] σ) := by
  exact r_virt (args := [.int s0]) (rest := []) (show decode (zb m_PL_streak) 30 = .ok (.invokevirtual 181, 3) from by decide +kernel) rfl rfl rfl h1
theorem b_PL_streak_33 {C : CF} {d : Nat} {σ : HP} {a0 : Nat} {x4 : Int32} {l1 : Option Value} {l2 : Option Value} {l3 : Option Value} {l5 : Option Value} {l6 : Option Value} {l7 : Option Value} {l8 : Option Value} {l9 : Option Value}  : runF C d m_PL_streak (33, [some (.ref a0), l1, l2, l3, some (.int x4), l5, l6, l7, l8, l9], [], σ) = bkN C d m_PL_streak 38 [some (.ref a0), l1, l2, l3, some (.int x4), l5, l6, l7, l8, l9] [.ref a0] (C m_PL_isWithin [.int x4, .int ((0 : Int32)), .int ((1 : Int32))] σ) := by
  refine (r_aloadn 0 (show decode (zb m_PL_streak) 33 = .ok (.aload_n 0, 1) from by decide +kernel) rfl).trans ?_
  refine (r_iload 4 (show decode (zb m_PL_streak) 34 = .ok (.iload 4, 2) from by decide +kernel) rfl).trans ?_
  refine (r_iconst (v := (0 : Int32)) (show decode (zb m_PL_streak) 36 = .ok (.iconst (0), 1) from by decide +kernel) (by decide)).trans ?_
  refine (r_iconst (v := (1 : Int32)) (show decode (zb m_PL_streak) 37 = .ok (.iconst (1), 1) from by decide +kernel) (by decide)).trans ?_
  exact r_stat (args := [.int x4, .int ((0 : Int32)), .int ((1 : Int32))]) (rest := [.ref a0]) (show decode (zb m_PL_streak) 38 = .ok (.invokestatic 177, 3) from by decide +kernel) rfl (by decide) rfl rfl
theorem b_PL_streak_41 {C : CF} {d : Nat} {σ : HP} {s0 : Int32} {r1 : Nat} {l0 : Option Value} {l1 : Option Value} {l2 : Option Value} {l3 : Option Value} {l4 : Option Value} {l5 : Option Value} {l6 : Option Value} {l7 : Option Value} {l8 : Option Value} {l9 : Option Value} (h1 : r1 % 64 = 11) : runF C d m_PL_streak (41, [l0, l1, l2, l3, l4, l5, l6, l7, l8, l9], [.int s0, .ref r1], σ) = bk C d m_PL_streak 41 [l0, l1, l2, l3, l4, l5, l6, l7, l8, l9] [] (C m_PL_needArgument [.ref r1, .int s0] σ) := by
  exact r_virt (args := [.int s0]) (rest := []) (show decode (zb m_PL_streak) 41 = .ok (.invokevirtual 181, 3) from by decide +kernel) rfl rfl rfl h1
theorem b_PL_streak_44 {C : CF} {d : Nat} {σ : HP} {a0 : Nat} {x1 : Int32} {x2 : Int32} {x3 : Int32} {l4 : Option Value} {l5 : Option Value} {l6 : Option Value} {l7 : Option Value} {l8 : Option Value} {l9 : Option Value} (h1 : a0 % 64 = 11) (h2 : (gR σ a0 5).isSome = true) (h3 : (dr (gR σ a0 5)) % 64 = 8) : runF C d m_PL_streak (44, [some (.ref a0), some (.int x1), some (.int x2), some (.int x3), l4, l5, l6, l7, l8, l9], [], σ) = bk C d m_PL_streak 51 [some (.ref a0), some (.int x1), some (.int x2), some (.int x3), l4, l5, l6, l7, l8, l9] [] (C m_Scales_waysWithoutRun [.ref (dr (gR σ a0 5)), .int x1, .int x2, .int x3] σ) := by
  refine (r_aloadn 0 (show decode (zb m_PL_streak) 44 = .ok (.aload_n 0, 1) from by decide +kernel) rfl).trans ?_
  refine (r_getR (show decode (zb m_PL_streak) 45 = .ok (.getfield 43, 3) from by decide +kernel) rfl rfl h1 h2).trans ?_
  refine (r_iloadn 1 (show decode (zb m_PL_streak) 48 = .ok (.iload_n 1, 1) from by decide +kernel) rfl).trans ?_
  refine (r_iloadn 2 (show decode (zb m_PL_streak) 49 = .ok (.iload_n 2, 1) from by decide +kernel) rfl).trans ?_
  refine (r_iloadn 3 (show decode (zb m_PL_streak) 50 = .ok (.iload_n 3, 1) from by decide +kernel) rfl).trans ?_
  exact r_virt (args := [.int x1, .int x2, .int x3]) (rest := []) (show decode (zb m_PL_streak) 51 = .ok (.invokevirtual 326, 3) from by decide +kernel) rfl rfl rfl h3
theorem b_PL_streak_54 {C : CF} {d : Nat} {σ : HP} {t0 : Int64} {x1 : Int32} {l0 : Option Value} {l2 : Option Value} {l3 : Option Value} {l4 : Option Value} {l5 : Option Value} {l6 : Option Value} {l7 : Option Value} {l8 : Option Value} {l9 : Option Value}  : runF C d m_PL_streak (54, [l0, some (.int x1), l2, l3, l4, l5, l6, l7, l8, l9], [.long t0], σ) = runF C d m_PL_streak (66, [l0, some (.int x1), l2, l3, l4, some (.long t0), none, some (.long (p_shlL (1 : Int64) ((4 : Int32) * x1))), none, some (.int ((0 : Int32)))], [], σ) := by
  refine (r_lstore 5 (show decode (zb m_PL_streak) 54 = .ok (.lstore 5, 2) from by decide +kernel) rfl).trans ?_
  refine (r_lconst (v := 1) (show decode (zb m_PL_streak) 56 = .ok (.lconst 1, 1) from by decide +kernel) (by decide)).trans ?_
  refine (r_iconst (v := (4 : Int32)) (show decode (zb m_PL_streak) 57 = .ok (.iconst (4), 1) from by decide +kernel) (by decide)).trans ?_
  refine (r_iloadn 1 (show decode (zb m_PL_streak) 58 = .ok (.iload_n 1, 1) from by decide +kernel) rfl).trans ?_
  refine (r_imul (show decode (zb m_PL_streak) 59 = .ok (.imul, 1) from by decide +kernel)).trans ?_
  refine (r_lshl (show decode (zb m_PL_streak) 60 = .ok (.lshl, 1) from by decide +kernel)).trans ?_
  refine (r_lstore 7 (show decode (zb m_PL_streak) 61 = .ok (.lstore 7, 2) from by decide +kernel) rfl).trans ?_
  refine (r_iconst (v := (0 : Int32)) (show decode (zb m_PL_streak) 63 = .ok (.iconst (0), 1) from by decide +kernel) (by decide)).trans ?_
  exact r_istore 9 (show decode (zb m_PL_streak) 64 = .ok (.istore 9, 2) from by decide +kernel) rfl
theorem b_PL_streak_66 {C : CF} {d : Nat} {σ : HP} {x9 : Int32} {l0 : Option Value} {l1 : Option Value} {l2 : Option Value} {l3 : Option Value} {l4 : Option Value} {l5 : Option Value} {l6 : Option Value} {l7 : Option Value} {l8 : Option Value}  : runF C d m_PL_streak (66, [l0, l1, l2, l3, l4, l5, l6, l7, l8, some (.int x9)], [], σ) = if (48 : Int32) ≤ x9 then runF C d m_PL_streak (117, [l0, l1, l2, l3, l4, l5, l6, l7, l8, some (.int x9)], [], σ) else runF C d m_PL_streak (73, [l0, l1, l2, l3, l4, l5, l6, l7, l8, some (.int x9)], [], σ) := by
  refine (r_iload 9 (show decode (zb m_PL_streak) 66 = .ok (.iload 9, 2) from by decide +kernel) rfl).trans ?_
  refine (r_bipush (v := (48 : Int32)) (show decode (zb m_PL_streak) 68 = .ok (.bipush (48), 2) from by decide +kernel) (by decide)).trans ?_
  exact r_icmp_ge 117 (show decode (zb m_PL_streak) 70 = .ok (.if_icmp .ge (47), 3) from by decide +kernel) rfl
theorem b_PL_streak_73 {C : CF} {d : Nat} {σ : HP} {j5 : Int64} {l0 : Option Value} {l1 : Option Value} {l2 : Option Value} {l3 : Option Value} {l4 : Option Value} {l6 : Option Value} {l7 : Option Value} {l8 : Option Value} {l9 : Option Value}  : runF C d m_PL_streak (73, [l0, l1, l2, l3, l4, some (.long j5), l6, l7, l8, l9], [], σ) = if ¬ (lg_cmp (p_remL j5 (2 : Int64)) (0 : Int64)) = 0 then runF C d m_PL_streak (117, [l0, l1, l2, l3, l4, some (.long j5), l6, l7, l8, l9], [], σ) else runF C d m_PL_streak (84, [l0, l1, l2, l3, l4, some (.long j5), l6, l7, l8, l9], [], σ) := by
  refine (r_lload 5 (show decode (zb m_PL_streak) 73 = .ok (.lload 5, 2) from by decide +kernel) rfl).trans ?_
  refine (r_ldc2 (v := 2) (show decode (zb m_PL_streak) 75 = .ok (.ldc2_w 330, 3) from by decide +kernel) rfl).trans ?_
  refine (r_lrem (show decode (zb m_PL_streak) 78 = .ok (.lrem, 1) from by decide +kernel) (by decide)).trans ?_
  refine (r_lconst (v := 0) (show decode (zb m_PL_streak) 79 = .ok (.lconst 0, 1) from by decide +kernel) (by decide)).trans ?_
  refine (r_lcmp (show decode (zb m_PL_streak) 80 = .ok (.lcmp, 1) from by decide +kernel)).trans ?_
  exact r_if_ne 117 (show decode (zb m_PL_streak) 81 = .ok (.ifCond .ne (36), 3) from by decide +kernel) rfl
theorem b_PL_streak_84 {C : CF} {d : Nat} {σ : HP} {j7 : Int64} {l0 : Option Value} {l1 : Option Value} {l2 : Option Value} {l3 : Option Value} {l4 : Option Value} {l5 : Option Value} {l6 : Option Value} {l8 : Option Value} {l9 : Option Value}  : runF C d m_PL_streak (84, [l0, l1, l2, l3, l4, l5, l6, some (.long j7), l8, l9], [], σ) = if ¬ (lg_cmp (p_remL j7 (2 : Int64)) (0 : Int64)) = 0 then runF C d m_PL_streak (117, [l0, l1, l2, l3, l4, l5, l6, some (.long j7), l8, l9], [], σ) else runF C d m_PL_streak (95, [l0, l1, l2, l3, l4, l5, l6, some (.long j7), l8, l9], [], σ) := by
  refine (r_lload 7 (show decode (zb m_PL_streak) 84 = .ok (.lload 7, 2) from by decide +kernel) rfl).trans ?_
  refine (r_ldc2 (v := 2) (show decode (zb m_PL_streak) 86 = .ok (.ldc2_w 330, 3) from by decide +kernel) rfl).trans ?_
  refine (r_lrem (show decode (zb m_PL_streak) 89 = .ok (.lrem, 1) from by decide +kernel) (by decide)).trans ?_
  refine (r_lconst (v := 0) (show decode (zb m_PL_streak) 90 = .ok (.lconst 0, 1) from by decide +kernel) (by decide)).trans ?_
  refine (r_lcmp (show decode (zb m_PL_streak) 91 = .ok (.lcmp, 1) from by decide +kernel)).trans ?_
  exact r_if_ne 117 (show decode (zb m_PL_streak) 92 = .ok (.ifCond .ne (25), 3) from by decide +kernel) rfl
theorem b_PL_streak_95 {C : CF} {d : Nat} {σ : HP} {j5 : Int64} {j7 : Int64} {x9 : Int32} {l0 : Option Value} {l1 : Option Value} {l2 : Option Value} {l3 : Option Value} {l4 : Option Value} {l6 : Option Value} {l8 : Option Value}  : runF C d m_PL_streak (95, [l0, l1, l2, l3, l4, some (.long j5), l6, some (.long j7), l8, some (.int x9)], [], σ) = runF C d m_PL_streak (66, [l0, l1, l2, l3, l4, some (.long (j5 / (2 : Int64))), none, some (.long (j7 / (2 : Int64))), none, some (.int (x9 + (1 : Int32)))], [], σ) := by
  refine (r_lload 5 (show decode (zb m_PL_streak) 95 = .ok (.lload 5, 2) from by decide +kernel) rfl).trans ?_
  refine (r_ldc2 (v := 2) (show decode (zb m_PL_streak) 97 = .ok (.ldc2_w 330, 3) from by decide +kernel) rfl).trans ?_
  refine (r_ldiv (show decode (zb m_PL_streak) 100 = .ok (.ldiv, 1) from by decide +kernel) (by decide)).trans ?_
  refine (r_lstore 5 (show decode (zb m_PL_streak) 101 = .ok (.lstore 5, 2) from by decide +kernel) rfl).trans ?_
  refine (r_lload 7 (show decode (zb m_PL_streak) 103 = .ok (.lload 7, 2) from by decide +kernel) rfl).trans ?_
  refine (r_ldc2 (v := 2) (show decode (zb m_PL_streak) 105 = .ok (.ldc2_w 330, 3) from by decide +kernel) rfl).trans ?_
  refine (r_ldiv (show decode (zb m_PL_streak) 108 = .ok (.ldiv, 1) from by decide +kernel) (by decide)).trans ?_
  refine (r_lstore 7 (show decode (zb m_PL_streak) 109 = .ok (.lstore 7, 2) from by decide +kernel) rfl).trans ?_
  refine (r_iinc 9 (v := (1 : Int32)) (show decode (zb m_PL_streak) 111 = .ok (.iinc 9 (1), 3) from by decide +kernel) rfl rfl (by decide)).trans ?_
  exact r_goto 66 (show decode (zb m_PL_streak) 114 = .ok (.goto (-48), 3) from by decide +kernel) rfl
theorem b_PL_streak_117 {C : CF} {d : Nat} {σ : HP} {x4 : Int32} {l0 : Option Value} {l1 : Option Value} {l2 : Option Value} {l3 : Option Value} {l5 : Option Value} {l6 : Option Value} {l7 : Option Value} {l8 : Option Value} {l9 : Option Value}  : runF C d m_PL_streak (117, [l0, l1, l2, l3, some (.int x4), l5, l6, l7, l8, l9], [], σ) = if ¬ x4 = 0 then runF C d m_PL_streak (127, [l0, l1, l2, l3, some (.int x4), l5, l6, l7, l8, l9], [], σ) else runF C d m_PL_streak (122, [l0, l1, l2, l3, some (.int x4), l5, l6, l7, l8, l9], [], σ) := by
  refine (r_iload 4 (show decode (zb m_PL_streak) 117 = .ok (.iload 4, 2) from by decide +kernel) rfl).trans ?_
  exact r_if_ne 127 (show decode (zb m_PL_streak) 119 = .ok (.ifCond .ne (8), 3) from by decide +kernel) rfl
theorem b_PL_streak_122 {C : CF} {d : Nat} {σ : HP} {j5 : Int64} {l0 : Option Value} {l1 : Option Value} {l2 : Option Value} {l3 : Option Value} {l4 : Option Value} {l6 : Option Value} {l7 : Option Value} {l8 : Option Value} {l9 : Option Value}  : runF C d m_PL_streak (122, [l0, l1, l2, l3, l4, some (.long j5), l6, l7, l8, l9], [], σ) = runF C d m_PL_streak (129, [l0, l1, l2, l3, l4, some (.long j5), l6, l7, l8, l9], [.long j5], σ) := by
  refine (r_lload 5 (show decode (zb m_PL_streak) 122 = .ok (.lload 5, 2) from by decide +kernel) rfl).trans ?_
  exact r_goto 129 (show decode (zb m_PL_streak) 124 = .ok (.goto (5), 3) from by decide +kernel) rfl
theorem b_PL_streak_127 {C : CF} {d : Nat} {σ : HP} {j7 : Int64} {l0 : Option Value} {l1 : Option Value} {l2 : Option Value} {l3 : Option Value} {l4 : Option Value} {l5 : Option Value} {l6 : Option Value} {l8 : Option Value} {l9 : Option Value}  : runF C d m_PL_streak (127, [l0, l1, l2, l3, l4, l5, l6, some (.long j7), l8, l9], [], σ) = runF C d m_PL_streak (129, [l0, l1, l2, l3, l4, l5, l6, some (.long j7), l8, l9], [.long j7], σ) := by
  exact r_lload 7 (show decode (zb m_PL_streak) 127 = .ok (.lload 7, 2) from by decide +kernel) rfl
theorem b_PL_streak_129 {C : CF} {d : Nat} {σ : HP} {t0 : Int64} {l0 : Option Value} {l1 : Option Value} {l2 : Option Value} {l3 : Option Value} {l4 : Option Value} {l5 : Option Value} {l6 : Option Value} {l7 : Option Value} {l8 : Option Value} {l9 : Option Value}  : runF C d m_PL_streak (129, [l0, l1, l2, l3, l4, l5, l6, l7, l8, l9], [.long t0], σ) = some (.inl (some (.long t0)), σ) := by
  exact r_lret (show decode (zb m_PL_streak) 129 = .ok (.lreturn, 1) from by decide +kernel) rfl
theorem e_PL_flatter {d : Nat} {σ : HP} {a0 : Nat} {x1 : Int32} {x2 : Int32} {x3 : Int32} : callF (d + 1) m_PL_flatter [.ref a0, .int x1, .int x2, .int x3] σ = runF (callF d) d m_PL_flatter (0, [some (.ref a0), some (.int x1), some (.int x2), some (.int x3), none, none, none, none, none, none], [], σ) := callF_in rfl rfl
theorem b_PL_flatter_0 {C : CF} {d : Nat} {σ : HP} {a0 : Nat} {x1 : Int32} {l2 : Option Value} {l3 : Option Value} {l4 : Option Value} {l5 : Option Value} {l6 : Option Value} {l7 : Option Value} {l8 : Option Value} {l9 : Option Value}  : runF C d m_PL_flatter (0, [some (.ref a0), some (.int x1), l2, l3, l4, l5, l6, l7, l8, l9], [], σ) = bkN C d m_PL_flatter 5 [some (.ref a0), some (.int x1), l2, l3, l4, l5, l6, l7, l8, l9] [.ref a0] (C m_PL_isWithin [.int x1, .int ((0 : Int32)), .int ((99 : Int32))] σ) := by
  refine (r_aloadn 0 (show decode (zb m_PL_flatter) 0 = .ok (.aload_n 0, 1) from by decide +kernel) rfl).trans ?_
  refine (r_iloadn 1 (show decode (zb m_PL_flatter) 1 = .ok (.iload_n 1, 1) from by decide +kernel) rfl).trans ?_
  refine (r_iconst (v := (0 : Int32)) (show decode (zb m_PL_flatter) 2 = .ok (.iconst (0), 1) from by decide +kernel) (by decide)).trans ?_
  refine (r_bipush (v := (99 : Int32)) (show decode (zb m_PL_flatter) 3 = .ok (.bipush (99), 2) from by decide +kernel) (by decide)).trans ?_
  exact r_stat (args := [.int x1, .int ((0 : Int32)), .int ((99 : Int32))]) (rest := [.ref a0]) (show decode (zb m_PL_flatter) 5 = .ok (.invokestatic 177, 3) from by decide +kernel) rfl (by decide) rfl rfl
theorem b_PL_flatter_8 {C : CF} {d : Nat} {σ : HP} {s0 : Int32} {r1 : Nat} {l0 : Option Value} {l1 : Option Value} {l2 : Option Value} {l3 : Option Value} {l4 : Option Value} {l5 : Option Value} {l6 : Option Value} {l7 : Option Value} {l8 : Option Value} {l9 : Option Value} (h1 : r1 % 64 = 11) : runF C d m_PL_flatter (8, [l0, l1, l2, l3, l4, l5, l6, l7, l8, l9], [.int s0, .ref r1], σ) = bk C d m_PL_flatter 8 [l0, l1, l2, l3, l4, l5, l6, l7, l8, l9] [] (C m_PL_needArgument [.ref r1, .int s0] σ) := by
  exact r_virt (args := [.int s0]) (rest := []) (show decode (zb m_PL_flatter) 8 = .ok (.invokevirtual 181, 3) from by decide +kernel) rfl rfl rfl h1
theorem b_PL_flatter_11 {C : CF} {d : Nat} {σ : HP} {a0 : Nat} {x2 : Int32} {l1 : Option Value} {l3 : Option Value} {l4 : Option Value} {l5 : Option Value} {l6 : Option Value} {l7 : Option Value} {l8 : Option Value} {l9 : Option Value}  : runF C d m_PL_flatter (11, [some (.ref a0), l1, some (.int x2), l3, l4, l5, l6, l7, l8, l9], [], σ) = bkN C d m_PL_flatter 16 [some (.ref a0), l1, some (.int x2), l3, l4, l5, l6, l7, l8, l9] [.ref a0] (C m_PL_isWithin [.int x2, .int ((0 : Int32)), .int ((99 : Int32))] σ) := by
  refine (r_aloadn 0 (show decode (zb m_PL_flatter) 11 = .ok (.aload_n 0, 1) from by decide +kernel) rfl).trans ?_
  refine (r_iloadn 2 (show decode (zb m_PL_flatter) 12 = .ok (.iload_n 2, 1) from by decide +kernel) rfl).trans ?_
  refine (r_iconst (v := (0 : Int32)) (show decode (zb m_PL_flatter) 13 = .ok (.iconst (0), 1) from by decide +kernel) (by decide)).trans ?_
  refine (r_bipush (v := (99 : Int32)) (show decode (zb m_PL_flatter) 14 = .ok (.bipush (99), 2) from by decide +kernel) (by decide)).trans ?_
  exact r_stat (args := [.int x2, .int ((0 : Int32)), .int ((99 : Int32))]) (rest := [.ref a0]) (show decode (zb m_PL_flatter) 16 = .ok (.invokestatic 177, 3) from by decide +kernel) rfl (by decide) rfl rfl
theorem b_PL_flatter_19 {C : CF} {d : Nat} {σ : HP} {s0 : Int32} {r1 : Nat} {l0 : Option Value} {l1 : Option Value} {l2 : Option Value} {l3 : Option Value} {l4 : Option Value} {l5 : Option Value} {l6 : Option Value} {l7 : Option Value} {l8 : Option Value} {l9 : Option Value} (h1 : r1 % 64 = 11) : runF C d m_PL_flatter (19, [l0, l1, l2, l3, l4, l5, l6, l7, l8, l9], [.int s0, .ref r1], σ) = bk C d m_PL_flatter 19 [l0, l1, l2, l3, l4, l5, l6, l7, l8, l9] [] (C m_PL_needArgument [.ref r1, .int s0] σ) := by
  exact r_virt (args := [.int s0]) (rest := []) (show decode (zb m_PL_flatter) 19 = .ok (.invokevirtual 181, 3) from by decide +kernel) rfl rfl rfl h1
theorem b_PL_flatter_22 {C : CF} {d : Nat} {σ : HP} {a0 : Nat} {x3 : Int32} {l1 : Option Value} {l2 : Option Value} {l4 : Option Value} {l5 : Option Value} {l6 : Option Value} {l7 : Option Value} {l8 : Option Value} {l9 : Option Value}  : runF C d m_PL_flatter (22, [some (.ref a0), l1, l2, some (.int x3), l4, l5, l6, l7, l8, l9], [], σ) = bkN C d m_PL_flatter 26 [some (.ref a0), l1, l2, some (.int x3), l4, l5, l6, l7, l8, l9] [.ref a0] (C m_PL_isWithin [.int x3, .int ((0 : Int32)), .int ((2 : Int32))] σ) := by
  refine (r_aloadn 0 (show decode (zb m_PL_flatter) 22 = .ok (.aload_n 0, 1) from by decide +kernel) rfl).trans ?_
  refine (r_iloadn 3 (show decode (zb m_PL_flatter) 23 = .ok (.iload_n 3, 1) from by decide +kernel) rfl).trans ?_
  refine (r_iconst (v := (0 : Int32)) (show decode (zb m_PL_flatter) 24 = .ok (.iconst (0), 1) from by decide +kernel) (by decide)).trans ?_
  refine (r_iconst (v := (2 : Int32)) (show decode (zb m_PL_flatter) 25 = .ok (.iconst (2), 1) from by decide +kernel) (by decide)).trans ?_
  exact r_stat (args := [.int x3, .int ((0 : Int32)), .int ((2 : Int32))]) (rest := [.ref a0]) (show decode (zb m_PL_flatter) 26 = .ok (.invokestatic 177, 3) from by decide +kernel) rfl (by decide) rfl rfl
theorem b_PL_flatter_29 {C : CF} {d : Nat} {σ : HP} {s0 : Int32} {r1 : Nat} {l0 : Option Value} {l1 : Option Value} {l2 : Option Value} {l3 : Option Value} {l4 : Option Value} {l5 : Option Value} {l6 : Option Value} {l7 : Option Value} {l8 : Option Value} {l9 : Option Value} (h1 : r1 % 64 = 11) : runF C d m_PL_flatter (29, [l0, l1, l2, l3, l4, l5, l6, l7, l8, l9], [.int s0, .ref r1], σ) = bk C d m_PL_flatter 29 [l0, l1, l2, l3, l4, l5, l6, l7, l8, l9] [] (C m_PL_needArgument [.ref r1, .int s0] σ) := by
  exact r_virt (args := [.int s0]) (rest := []) (show decode (zb m_PL_flatter) 29 = .ok (.invokevirtual 181, 3) from by decide +kernel) rfl rfl rfl h1
theorem b_PL_flatter_32 {C : CF} {d : Nat} {σ : HP} {l0 : Option Value} {l1 : Option Value} {l2 : Option Value} {l3 : Option Value} {l4 : Option Value} {l5 : Option Value} {l6 : Option Value} {l7 : Option Value} {l8 : Option Value} {l9 : Option Value}  : runF C d m_PL_flatter (32, [l0, l1, l2, l3, l4, l5, l6, l7, l8, l9], [], σ) = runF C d m_PL_flatter (44, [l0, l1, l2, l3, some (.int ((0 : Int32))), some (.int ((-1 : Int32))), some (.int ((0 : Int32))), some (.int ((0 : Int32))), l8, l9], [], σ) := by
  refine (r_iconst (v := (0 : Int32)) (show decode (zb m_PL_flatter) 32 = .ok (.iconst (0), 1) from by decide +kernel) (by decide)).trans ?_
  refine (r_istore 4 (show decode (zb m_PL_flatter) 33 = .ok (.istore 4, 2) from by decide +kernel) rfl).trans ?_
  refine (r_iconst (v := (-1 : Int32)) (show decode (zb m_PL_flatter) 35 = .ok (.iconst (-1), 1) from by decide +kernel) (by decide)).trans ?_
  refine (r_istore 5 (show decode (zb m_PL_flatter) 36 = .ok (.istore 5, 2) from by decide +kernel) rfl).trans ?_
  refine (r_iconst (v := (0 : Int32)) (show decode (zb m_PL_flatter) 38 = .ok (.iconst (0), 1) from by decide +kernel) (by decide)).trans ?_
  refine (r_istore 6 (show decode (zb m_PL_flatter) 39 = .ok (.istore 6, 2) from by decide +kernel) rfl).trans ?_
  refine (r_iconst (v := (0 : Int32)) (show decode (zb m_PL_flatter) 41 = .ok (.iconst (0), 1) from by decide +kernel) (by decide)).trans ?_
  exact r_istore 7 (show decode (zb m_PL_flatter) 42 = .ok (.istore 7, 2) from by decide +kernel) rfl
theorem b_PL_flatter_44 {C : CF} {d : Nat} {σ : HP} {x7 : Int32} {l0 : Option Value} {l1 : Option Value} {l2 : Option Value} {l3 : Option Value} {l4 : Option Value} {l5 : Option Value} {l6 : Option Value} {l8 : Option Value} {l9 : Option Value}  : runF C d m_PL_flatter (44, [l0, l1, l2, l3, l4, l5, l6, some (.int x7), l8, l9], [], σ) = if (4 : Int32) ≤ x7 then runF C d m_PL_flatter (122, [l0, l1, l2, l3, l4, l5, l6, some (.int x7), l8, l9], [], σ) else runF C d m_PL_flatter (50, [l0, l1, l2, l3, l4, l5, l6, some (.int x7), l8, l9], [], σ) := by
  refine (r_iload 7 (show decode (zb m_PL_flatter) 44 = .ok (.iload 7, 2) from by decide +kernel) rfl).trans ?_
  refine (r_iconst (v := (4 : Int32)) (show decode (zb m_PL_flatter) 46 = .ok (.iconst (4), 1) from by decide +kernel) (by decide)).trans ?_
  exact r_icmp_ge 122 (show decode (zb m_PL_flatter) 47 = .ok (.if_icmp .ge (75), 3) from by decide +kernel) rfl
theorem b_PL_flatter_50 {C : CF} {d : Nat} {σ : HP} {x7 : Int32} {x1 : Int32} {x2 : Int32} {l0 : Option Value} {l3 : Option Value} {l4 : Option Value} {l5 : Option Value} {l6 : Option Value} {l8 : Option Value} {l9 : Option Value}  : runF C d m_PL_flatter (50, [l0, some (.int x1), some (.int x2), l3, l4, l5, l6, some (.int x7), l8, l9], [], σ) = bkN C d m_PL_flatter 68 [l0, some (.int x1), some (.int x2), l3, l4, l5, l6, some (.int x7), some (.int (x7 / (2 : Int32))), some (.int (p_rem x7 (2 : Int32)))] [] (C m_PL_isRest [.int (x7 / (2 : Int32)), .int (p_rem x7 (2 : Int32)), .int x1, .int x2] σ) := by
  refine (r_iload 7 (show decode (zb m_PL_flatter) 50 = .ok (.iload 7, 2) from by decide +kernel) rfl).trans ?_
  refine (r_iconst (v := (2 : Int32)) (show decode (zb m_PL_flatter) 52 = .ok (.iconst (2), 1) from by decide +kernel) (by decide)).trans ?_
  refine (r_idiv (show decode (zb m_PL_flatter) 53 = .ok (.idiv, 1) from by decide +kernel) (by decide)).trans ?_
  refine (r_istore 8 (show decode (zb m_PL_flatter) 54 = .ok (.istore 8, 2) from by decide +kernel) rfl).trans ?_
  refine (r_iload 7 (show decode (zb m_PL_flatter) 56 = .ok (.iload 7, 2) from by decide +kernel) rfl).trans ?_
  refine (r_iconst (v := (2 : Int32)) (show decode (zb m_PL_flatter) 58 = .ok (.iconst (2), 1) from by decide +kernel) (by decide)).trans ?_
  refine (r_irem (show decode (zb m_PL_flatter) 59 = .ok (.irem, 1) from by decide +kernel) (by decide)).trans ?_
  refine (r_istore 9 (show decode (zb m_PL_flatter) 60 = .ok (.istore 9, 2) from by decide +kernel) rfl).trans ?_
  refine (r_iload 8 (show decode (zb m_PL_flatter) 62 = .ok (.iload 8, 2) from by decide +kernel) rfl).trans ?_
  refine (r_iload 9 (show decode (zb m_PL_flatter) 64 = .ok (.iload 9, 2) from by decide +kernel) rfl).trans ?_
  refine (r_iloadn 1 (show decode (zb m_PL_flatter) 66 = .ok (.iload_n 1, 1) from by decide +kernel) rfl).trans ?_
  refine (r_iloadn 2 (show decode (zb m_PL_flatter) 67 = .ok (.iload_n 2, 1) from by decide +kernel) rfl).trans ?_
  exact r_stat (args := [.int (x7 / (2 : Int32)), .int (p_rem x7 (2 : Int32)), .int x1, .int x2]) (rest := []) (show decode (zb m_PL_flatter) 68 = .ok (.invokestatic 332, 3) from by decide +kernel) rfl (by decide) rfl rfl
theorem b_PL_flatter_71 {C : CF} {d : Nat} {σ : HP} {s0 : Int32} {l0 : Option Value} {l1 : Option Value} {l2 : Option Value} {l3 : Option Value} {l4 : Option Value} {l5 : Option Value} {l6 : Option Value} {l7 : Option Value} {l8 : Option Value} {l9 : Option Value}  : runF C d m_PL_flatter (71, [l0, l1, l2, l3, l4, l5, l6, l7, l8, l9], [.int s0], σ) = if ¬ s0 = 0 then runF C d m_PL_flatter (77, [l0, l1, l2, l3, l4, l5, l6, l7, l8, l9], [], σ) else runF C d m_PL_flatter (74, [l0, l1, l2, l3, l4, l5, l6, l7, l8, l9], [], σ) := by
  exact r_if_ne 77 (show decode (zb m_PL_flatter) 71 = .ok (.ifCond .ne (6), 3) from by decide +kernel) rfl
theorem b_PL_flatter_74 {C : CF} {d : Nat} {σ : HP} {l0 : Option Value} {l1 : Option Value} {l2 : Option Value} {l3 : Option Value} {l4 : Option Value} {l5 : Option Value} {l6 : Option Value} {l7 : Option Value} {l8 : Option Value} {l9 : Option Value}  : runF C d m_PL_flatter (74, [l0, l1, l2, l3, l4, l5, l6, l7, l8, l9], [], σ) = runF C d m_PL_flatter (116, [l0, l1, l2, l3, l4, l5, l6, l7, l8, l9], [], σ) := by
  exact r_goto 116 (show decode (zb m_PL_flatter) 74 = .ok (.goto (42), 3) from by decide +kernel) rfl
theorem b_PL_flatter_77 {C : CF} {d : Nat} {σ : HP} {x4 : Int32} {l0 : Option Value} {l1 : Option Value} {l2 : Option Value} {l3 : Option Value} {l5 : Option Value} {l6 : Option Value} {l7 : Option Value} {l8 : Option Value} {l9 : Option Value}  : runF C d m_PL_flatter (77, [l0, l1, l2, l3, some (.int x4), l5, l6, l7, l8, l9], [], σ) = if ¬ x4 = 0 then runF C d m_PL_flatter (113, [l0, l1, l2, l3, some (.int x4), l5, l6, l7, l8, l9], [], σ) else runF C d m_PL_flatter (82, [l0, l1, l2, l3, some (.int x4), l5, l6, l7, l8, l9], [], σ) := by
  refine (r_iload 4 (show decode (zb m_PL_flatter) 77 = .ok (.iload 4, 2) from by decide +kernel) rfl).trans ?_
  exact r_if_ne 113 (show decode (zb m_PL_flatter) 79 = .ok (.ifCond .ne (34), 3) from by decide +kernel) rfl
theorem b_PL_flatter_82 {C : CF} {d : Nat} {σ : HP} {x8 : Int32} {x9 : Int32} {x1 : Int32} {x2 : Int32} {l0 : Option Value} {l3 : Option Value} {l4 : Option Value} {l5 : Option Value} {l6 : Option Value} {l7 : Option Value}  : runF C d m_PL_flatter (82, [l0, some (.int x1), some (.int x2), l3, l4, l5, l6, l7, some (.int x8), some (.int x9)], [], σ) = bkN C d m_PL_flatter 98 [l0, some (.int x1), some (.int x2), l3, l4, some (.int (((10 : Int32) * x8) + x9)), l6, l7, some (.int x8), some (.int x9)] [] (C m_PL_flattererHas [.int x8, .int x9, .int x1, .int x2] σ) := by
  refine (r_bipush (v := (10 : Int32)) (show decode (zb m_PL_flatter) 82 = .ok (.bipush (10), 2) from by decide +kernel) (by decide)).trans ?_
  refine (r_iload 8 (show decode (zb m_PL_flatter) 84 = .ok (.iload 8, 2) from by decide +kernel) rfl).trans ?_
  refine (r_imul (show decode (zb m_PL_flatter) 86 = .ok (.imul, 1) from by decide +kernel)).trans ?_
  refine (r_iload 9 (show decode (zb m_PL_flatter) 87 = .ok (.iload 9, 2) from by decide +kernel) rfl).trans ?_
  refine (r_iadd (show decode (zb m_PL_flatter) 89 = .ok (.iadd, 1) from by decide +kernel)).trans ?_
  refine (r_istore 5 (show decode (zb m_PL_flatter) 90 = .ok (.istore 5, 2) from by decide +kernel) rfl).trans ?_
  refine (r_iload 8 (show decode (zb m_PL_flatter) 92 = .ok (.iload 8, 2) from by decide +kernel) rfl).trans ?_
  refine (r_iload 9 (show decode (zb m_PL_flatter) 94 = .ok (.iload 9, 2) from by decide +kernel) rfl).trans ?_
  refine (r_iloadn 1 (show decode (zb m_PL_flatter) 96 = .ok (.iload_n 1, 1) from by decide +kernel) rfl).trans ?_
  refine (r_iloadn 2 (show decode (zb m_PL_flatter) 97 = .ok (.iload_n 2, 1) from by decide +kernel) rfl).trans ?_
  exact r_stat (args := [.int x8, .int x9, .int x1, .int x2]) (rest := []) (show decode (zb m_PL_flatter) 98 = .ok (.invokestatic 336, 3) from by decide +kernel) rfl (by decide) rfl rfl
theorem b_PL_flatter_101 {C : CF} {d : Nat} {σ : HP} {s0 : Int32} {x9 : Int32} {x8 : Int32} {x1 : Int32} {x2 : Int32} {l0 : Option Value} {l3 : Option Value} {l4 : Option Value} {l5 : Option Value} {l6 : Option Value} {l7 : Option Value}  : runF C d m_PL_flatter (101, [l0, some (.int x1), some (.int x2), l3, l4, l5, l6, l7, some (.int x8), some (.int x9)], [.int s0], σ) = bkN C d m_PL_flatter 107 [l0, some (.int x1), some (.int x2), l3, l4, l5, l6, l7, some (.int x8), some (.int x9)] [.int s0] (C m_PL_flattererHas [.int x9, .int x8, .int x1, .int x2] σ) := by
  refine (r_iload 9 (show decode (zb m_PL_flatter) 101 = .ok (.iload 9, 2) from by decide +kernel) rfl).trans ?_
  refine (r_iload 8 (show decode (zb m_PL_flatter) 103 = .ok (.iload 8, 2) from by decide +kernel) rfl).trans ?_
  refine (r_iloadn 1 (show decode (zb m_PL_flatter) 105 = .ok (.iload_n 1, 1) from by decide +kernel) rfl).trans ?_
  refine (r_iloadn 2 (show decode (zb m_PL_flatter) 106 = .ok (.iload_n 2, 1) from by decide +kernel) rfl).trans ?_
  exact r_stat (args := [.int x9, .int x8, .int x1, .int x2]) (rest := [.int s0]) (show decode (zb m_PL_flatter) 107 = .ok (.invokestatic 336, 3) from by decide +kernel) rfl (by decide) rfl rfl
theorem b_PL_flatter_110 {C : CF} {d : Nat} {σ : HP} {s0 : Int32} {s1 : Int32} {l0 : Option Value} {l1 : Option Value} {l2 : Option Value} {l3 : Option Value} {l4 : Option Value} {l5 : Option Value} {l6 : Option Value} {l7 : Option Value} {l8 : Option Value} {l9 : Option Value}  : runF C d m_PL_flatter (110, [l0, l1, l2, l3, l4, l5, l6, l7, l8, l9], [.int s0, .int s1], σ) = runF C d m_PL_flatter (113, [l0, l1, l2, l3, l4, l5, some (.int (s1 + s0)), l7, l8, l9], [], σ) := by
  refine (r_iadd (show decode (zb m_PL_flatter) 110 = .ok (.iadd, 1) from by decide +kernel)).trans ?_
  exact r_istore 6 (show decode (zb m_PL_flatter) 111 = .ok (.istore 6, 2) from by decide +kernel) rfl
theorem b_PL_flatter_113 {C : CF} {d : Nat} {σ : HP} {x4 : Int32} {l0 : Option Value} {l1 : Option Value} {l2 : Option Value} {l3 : Option Value} {l5 : Option Value} {l6 : Option Value} {l7 : Option Value} {l8 : Option Value} {l9 : Option Value}  : runF C d m_PL_flatter (113, [l0, l1, l2, l3, some (.int x4), l5, l6, l7, l8, l9], [], σ) = runF C d m_PL_flatter (116, [l0, l1, l2, l3, some (.int (x4 + (1 : Int32))), l5, l6, l7, l8, l9], [], σ) := by
  exact r_iinc 4 (v := (1 : Int32)) (show decode (zb m_PL_flatter) 113 = .ok (.iinc 4 (1), 3) from by decide +kernel) rfl rfl (by decide)
theorem b_PL_flatter_116 {C : CF} {d : Nat} {σ : HP} {x7 : Int32} {l0 : Option Value} {l1 : Option Value} {l2 : Option Value} {l3 : Option Value} {l4 : Option Value} {l5 : Option Value} {l6 : Option Value} {l8 : Option Value} {l9 : Option Value}  : runF C d m_PL_flatter (116, [l0, l1, l2, l3, l4, l5, l6, some (.int x7), l8, l9], [], σ) = runF C d m_PL_flatter (44, [l0, l1, l2, l3, l4, l5, l6, some (.int (x7 + (1 : Int32))), l8, l9], [], σ) := by
  refine (r_iinc 7 (v := (1 : Int32)) (show decode (zb m_PL_flatter) 116 = .ok (.iinc 7 (1), 3) from by decide +kernel) rfl rfl (by decide)).trans ?_
  exact r_goto 44 (show decode (zb m_PL_flatter) 119 = .ok (.goto (-75), 3) from by decide +kernel) rfl
theorem b_PL_flatter_122 {C : CF} {d : Nat} {σ : HP} {x3 : Int32} {l0 : Option Value} {l1 : Option Value} {l2 : Option Value} {l4 : Option Value} {l5 : Option Value} {l6 : Option Value} {l7 : Option Value} {l8 : Option Value} {l9 : Option Value}  : runF C d m_PL_flatter (122, [l0, l1, l2, some (.int x3), l4, l5, l6, l7, l8, l9], [], σ) = if ¬ x3 = 0 then runF C d m_PL_flatter (129, [l0, l1, l2, some (.int x3), l4, l5, l6, l7, l8, l9], [], σ) else runF C d m_PL_flatter (126, [l0, l1, l2, some (.int x3), l4, l5, l6, l7, l8, l9], [], σ) := by
  refine (r_iloadn 3 (show decode (zb m_PL_flatter) 122 = .ok (.iload_n 3, 1) from by decide +kernel) rfl).trans ?_
  exact r_if_ne 129 (show decode (zb m_PL_flatter) 123 = .ok (.ifCond .ne (6), 3) from by decide +kernel) rfl
theorem b_PL_flatter_126 {C : CF} {d : Nat} {σ : HP} {x4 : Int32} {l0 : Option Value} {l1 : Option Value} {l2 : Option Value} {l3 : Option Value} {l5 : Option Value} {l6 : Option Value} {l7 : Option Value} {l8 : Option Value} {l9 : Option Value}  : runF C d m_PL_flatter (126, [l0, l1, l2, l3, some (.int x4), l5, l6, l7, l8, l9], [], σ) = some (.inl (some (.int x4)), σ) := by
  refine (r_iload 4 (show decode (zb m_PL_flatter) 126 = .ok (.iload 4, 2) from by decide +kernel) rfl).trans ?_
  exact r_iret (show decode (zb m_PL_flatter) 128 = .ok (.ireturn, 1) from by decide +kernel) rfl rfl
theorem b_PL_flatter_129 {C : CF} {d : Nat} {σ : HP} {x3 : Int32} {l0 : Option Value} {l1 : Option Value} {l2 : Option Value} {l4 : Option Value} {l5 : Option Value} {l6 : Option Value} {l7 : Option Value} {l8 : Option Value} {l9 : Option Value}  : runF C d m_PL_flatter (129, [l0, l1, l2, some (.int x3), l4, l5, l6, l7, l8, l9], [], σ) = if ¬ x3 = (1 : Int32) then runF C d m_PL_flatter (139, [l0, l1, l2, some (.int x3), l4, l5, l6, l7, l8, l9], [], σ) else runF C d m_PL_flatter (134, [l0, l1, l2, some (.int x3), l4, l5, l6, l7, l8, l9], [], σ) := by
  refine (r_iloadn 3 (show decode (zb m_PL_flatter) 129 = .ok (.iload_n 3, 1) from by decide +kernel) rfl).trans ?_
  refine (r_iconst (v := (1 : Int32)) (show decode (zb m_PL_flatter) 130 = .ok (.iconst (1), 1) from by decide +kernel) (by decide)).trans ?_
  exact r_icmp_ne 139 (show decode (zb m_PL_flatter) 131 = .ok (.if_icmp .ne (8), 3) from by decide +kernel) rfl
theorem b_PL_flatter_134 {C : CF} {d : Nat} {σ : HP} {x5 : Int32} {l0 : Option Value} {l1 : Option Value} {l2 : Option Value} {l3 : Option Value} {l4 : Option Value} {l6 : Option Value} {l7 : Option Value} {l8 : Option Value} {l9 : Option Value}  : runF C d m_PL_flatter (134, [l0, l1, l2, l3, l4, some (.int x5), l6, l7, l8, l9], [], σ) = runF C d m_PL_flatter (141, [l0, l1, l2, l3, l4, some (.int x5), l6, l7, l8, l9], [.int x5], σ) := by
  refine (r_iload 5 (show decode (zb m_PL_flatter) 134 = .ok (.iload 5, 2) from by decide +kernel) rfl).trans ?_
  exact r_goto 141 (show decode (zb m_PL_flatter) 136 = .ok (.goto (5), 3) from by decide +kernel) rfl
theorem b_PL_flatter_139 {C : CF} {d : Nat} {σ : HP} {x6 : Int32} {l0 : Option Value} {l1 : Option Value} {l2 : Option Value} {l3 : Option Value} {l4 : Option Value} {l5 : Option Value} {l7 : Option Value} {l8 : Option Value} {l9 : Option Value}  : runF C d m_PL_flatter (139, [l0, l1, l2, l3, l4, l5, some (.int x6), l7, l8, l9], [], σ) = runF C d m_PL_flatter (141, [l0, l1, l2, l3, l4, l5, some (.int x6), l7, l8, l9], [.int x6], σ) := by
  exact r_iload 6 (show decode (zb m_PL_flatter) 139 = .ok (.iload 6, 2) from by decide +kernel) rfl
theorem b_PL_flatter_141 {C : CF} {d : Nat} {σ : HP} {s0 : Int32} {l0 : Option Value} {l1 : Option Value} {l2 : Option Value} {l3 : Option Value} {l4 : Option Value} {l5 : Option Value} {l6 : Option Value} {l7 : Option Value} {l8 : Option Value} {l9 : Option Value}  : runF C d m_PL_flatter (141, [l0, l1, l2, l3, l4, l5, l6, l7, l8, l9], [.int s0], σ) = some (.inl (some (.int s0)), σ) := by
  exact r_iret (show decode (zb m_PL_flatter) 141 = .ok (.ireturn, 1) from by decide +kernel) rfl rfl
theorem e_PL_isRest {d : Nat} {σ : HP} {x0 : Int32} {x1 : Int32} {x2 : Int32} {x3 : Int32} : callF (d + 1) m_PL_isRest [.int x0, .int x1, .int x2, .int x3] σ = runF (callF d) d m_PL_isRest (0, [some (.int x0), some (.int x1), some (.int x2), some (.int x3)], [], σ) := callF_in rfl rfl
theorem b_PL_isRest_0 {C : CF} {d : Nat} {σ : HP} {x0 : Int32} {x1 : Int32} {x2 : Int32} {x3 : Int32}  : runF C d m_PL_isRest (0, [some (.int x0), some (.int x1), some (.int x2), some (.int x3)], [], σ) = bkN C d m_PL_isRest 4 [some (.int x0), some (.int x1), some (.int x2), some (.int x3)] [] (C m_PL_flattererHas [.int x0, .int x1, .int x2, .int x3] σ) := by
  refine (r_iloadn 0 (show decode (zb m_PL_isRest) 0 = .ok (.iload_n 0, 1) from by decide +kernel) rfl).trans ?_
  refine (r_iloadn 1 (show decode (zb m_PL_isRest) 1 = .ok (.iload_n 1, 1) from by decide +kernel) rfl).trans ?_
  refine (r_iloadn 2 (show decode (zb m_PL_isRest) 2 = .ok (.iload_n 2, 1) from by decide +kernel) rfl).trans ?_
  refine (r_iloadn 3 (show decode (zb m_PL_isRest) 3 = .ok (.iload_n 3, 1) from by decide +kernel) rfl).trans ?_
  exact r_stat (args := [.int x0, .int x1, .int x2, .int x3]) (rest := []) (show decode (zb m_PL_isRest) 4 = .ok (.invokestatic 336, 3) from by decide +kernel) rfl (by decide) rfl rfl
theorem b_PL_isRest_7 {C : CF} {d : Nat} {σ : HP} {s0 : Int32} {x0 : Int32} {x1 : Int32} {x2 : Int32} {x3 : Int32}  : runF C d m_PL_isRest (7, [some (.int x0), some (.int x1), some (.int x2), some (.int x3)], [.int s0], σ) = bkN C d m_PL_isRest 13 [some (.int x0), some (.int x1), some (.int x2), some (.int x3)] [.int s0] (C m_PL_flattererHas [.int ((1 : Int32) - x0), .int x1, .int x2, .int x3] σ) := by
  refine (r_iconst (v := (1 : Int32)) (show decode (zb m_PL_isRest) 7 = .ok (.iconst (1), 1) from by decide +kernel) (by decide)).trans ?_
  refine (r_iloadn 0 (show decode (zb m_PL_isRest) 8 = .ok (.iload_n 0, 1) from by decide +kernel) rfl).trans ?_
  refine (r_isub (show decode (zb m_PL_isRest) 9 = .ok (.isub, 1) from by decide +kernel)).trans ?_
  refine (r_iloadn 1 (show decode (zb m_PL_isRest) 10 = .ok (.iload_n 1, 1) from by decide +kernel) rfl).trans ?_
  refine (r_iloadn 2 (show decode (zb m_PL_isRest) 11 = .ok (.iload_n 2, 1) from by decide +kernel) rfl).trans ?_
  refine (r_iloadn 3 (show decode (zb m_PL_isRest) 12 = .ok (.iload_n 3, 1) from by decide +kernel) rfl).trans ?_
  exact r_stat (args := [.int ((1 : Int32) - x0), .int x1, .int x2, .int x3]) (rest := [.int s0]) (show decode (zb m_PL_isRest) 13 = .ok (.invokestatic 336, 3) from by decide +kernel) rfl (by decide) rfl rfl
theorem b_PL_isRest_16 {C : CF} {d : Nat} {σ : HP} {s0 : Int32} {s1 : Int32} {l0 : Option Value} {l1 : Option Value} {l2 : Option Value} {l3 : Option Value}  : runF C d m_PL_isRest (16, [l0, l1, l2, l3], [.int s0, .int s1], σ) = if s1 < s0 then runF C d m_PL_isRest (42, [l0, l1, l2, l3], [], σ) else runF C d m_PL_isRest (19, [l0, l1, l2, l3], [], σ) := by
  exact r_icmp_lt 42 (show decode (zb m_PL_isRest) 16 = .ok (.if_icmp .lt (26), 3) from by decide +kernel) rfl
theorem b_PL_isRest_19 {C : CF} {d : Nat} {σ : HP} {x1 : Int32} {x0 : Int32} {x2 : Int32} {x3 : Int32}  : runF C d m_PL_isRest (19, [some (.int x0), some (.int x1), some (.int x2), some (.int x3)], [], σ) = bkN C d m_PL_isRest 23 [some (.int x0), some (.int x1), some (.int x2), some (.int x3)] [] (C m_PL_flattererHas [.int x1, .int x0, .int x2, .int x3] σ) := by
  refine (r_iloadn 1 (show decode (zb m_PL_isRest) 19 = .ok (.iload_n 1, 1) from by decide +kernel) rfl).trans ?_
  refine (r_iloadn 0 (show decode (zb m_PL_isRest) 20 = .ok (.iload_n 0, 1) from by decide +kernel) rfl).trans ?_
  refine (r_iloadn 2 (show decode (zb m_PL_isRest) 21 = .ok (.iload_n 2, 1) from by decide +kernel) rfl).trans ?_
  refine (r_iloadn 3 (show decode (zb m_PL_isRest) 22 = .ok (.iload_n 3, 1) from by decide +kernel) rfl).trans ?_
  exact r_stat (args := [.int x1, .int x0, .int x2, .int x3]) (rest := []) (show decode (zb m_PL_isRest) 23 = .ok (.invokestatic 336, 3) from by decide +kernel) rfl (by decide) rfl rfl
theorem b_PL_isRest_26 {C : CF} {d : Nat} {σ : HP} {s0 : Int32} {x1 : Int32} {x0 : Int32} {x2 : Int32} {x3 : Int32}  : runF C d m_PL_isRest (26, [some (.int x0), some (.int x1), some (.int x2), some (.int x3)], [.int s0], σ) = bkN C d m_PL_isRest 32 [some (.int x0), some (.int x1), some (.int x2), some (.int x3)] [.int s0] (C m_PL_flattererHas [.int ((1 : Int32) - x1), .int x0, .int x2, .int x3] σ) := by
  refine (r_iconst (v := (1 : Int32)) (show decode (zb m_PL_isRest) 26 = .ok (.iconst (1), 1) from by decide +kernel) (by decide)).trans ?_
  refine (r_iloadn 1 (show decode (zb m_PL_isRest) 27 = .ok (.iload_n 1, 1) from by decide +kernel) rfl).trans ?_
  refine (r_isub (show decode (zb m_PL_isRest) 28 = .ok (.isub, 1) from by decide +kernel)).trans ?_
  refine (r_iloadn 0 (show decode (zb m_PL_isRest) 29 = .ok (.iload_n 0, 1) from by decide +kernel) rfl).trans ?_
  refine (r_iloadn 2 (show decode (zb m_PL_isRest) 30 = .ok (.iload_n 2, 1) from by decide +kernel) rfl).trans ?_
  refine (r_iloadn 3 (show decode (zb m_PL_isRest) 31 = .ok (.iload_n 3, 1) from by decide +kernel) rfl).trans ?_
  exact r_stat (args := [.int ((1 : Int32) - x1), .int x0, .int x2, .int x3]) (rest := [.int s0]) (show decode (zb m_PL_isRest) 32 = .ok (.invokestatic 336, 3) from by decide +kernel) rfl (by decide) rfl rfl
theorem b_PL_isRest_35 {C : CF} {d : Nat} {σ : HP} {s0 : Int32} {s1 : Int32} {l0 : Option Value} {l1 : Option Value} {l2 : Option Value} {l3 : Option Value}  : runF C d m_PL_isRest (35, [l0, l1, l2, l3], [.int s0, .int s1], σ) = if s1 < s0 then runF C d m_PL_isRest (42, [l0, l1, l2, l3], [], σ) else runF C d m_PL_isRest (38, [l0, l1, l2, l3], [], σ) := by
  exact r_icmp_lt 42 (show decode (zb m_PL_isRest) 35 = .ok (.if_icmp .lt (7), 3) from by decide +kernel) rfl
theorem b_PL_isRest_38 {C : CF} {d : Nat} {σ : HP} {l0 : Option Value} {l1 : Option Value} {l2 : Option Value} {l3 : Option Value}  : runF C d m_PL_isRest (38, [l0, l1, l2, l3], [], σ) = runF C d m_PL_isRest (43, [l0, l1, l2, l3], [.int ((1 : Int32))], σ) := by
  refine (r_iconst (v := (1 : Int32)) (show decode (zb m_PL_isRest) 38 = .ok (.iconst (1), 1) from by decide +kernel) (by decide)).trans ?_
  exact r_goto 43 (show decode (zb m_PL_isRest) 39 = .ok (.goto (4), 3) from by decide +kernel) rfl
theorem b_PL_isRest_42 {C : CF} {d : Nat} {σ : HP} {l0 : Option Value} {l1 : Option Value} {l2 : Option Value} {l3 : Option Value}  : runF C d m_PL_isRest (42, [l0, l1, l2, l3], [], σ) = runF C d m_PL_isRest (43, [l0, l1, l2, l3], [.int ((0 : Int32))], σ) := by
  exact r_iconst (v := (0 : Int32)) (show decode (zb m_PL_isRest) 42 = .ok (.iconst (0), 1) from by decide +kernel) (by decide)
theorem b_PL_isRest_43 {C : CF} {d : Nat} {σ : HP} {s0 : Int32} {l0 : Option Value} {l1 : Option Value} {l2 : Option Value} {l3 : Option Value} (h1 : s0 = 0 ∨ s0 = 1) : runF C d m_PL_isRest (43, [l0, l1, l2, l3], [.int s0], σ) = some (.inl (some (.int s0)), σ) := by
  exact r_bret (show decode (zb m_PL_isRest) 43 = .ok (.ireturn, 1) from by decide +kernel) rfl h1
theorem e_PL_flattererHas {d : Nat} {σ : HP} {x0 : Int32} {x1 : Int32} {x2 : Int32} {x3 : Int32} : callF (d + 1) m_PL_flattererHas [.int x0, .int x1, .int x2, .int x3] σ = runF (callF d) d m_PL_flattererHas (0, [some (.int x0), some (.int x1), some (.int x2), some (.int x3)], [], σ) := callF_in rfl rfl
theorem b_PL_flattererHas_0 {C : CF} {d : Nat} {σ : HP} {x1 : Int32} {l0 : Option Value} {l2 : Option Value} {l3 : Option Value}  : runF C d m_PL_flattererHas (0, [l0, some (.int x1), l2, l3], [], σ) = if ¬ x1 = 0 then runF C d m_PL_flattererHas (8, [l0, some (.int x1), l2, l3], [], σ) else runF C d m_PL_flattererHas (4, [l0, some (.int x1), l2, l3], [], σ) := by
  refine (r_iloadn 1 (show decode (zb m_PL_flattererHas) 0 = .ok (.iload_n 1, 1) from by decide +kernel) rfl).trans ?_
  exact r_if_ne 8 (show decode (zb m_PL_flattererHas) 1 = .ok (.ifCond .ne (7), 3) from by decide +kernel) rfl
theorem b_PL_flattererHas_4 {C : CF} {d : Nat} {σ : HP} {x2 : Int32} {l0 : Option Value} {l1 : Option Value} {l3 : Option Value}  : runF C d m_PL_flattererHas (4, [l0, l1, some (.int x2), l3], [], σ) = runF C d m_PL_flattererHas (9, [l0, l1, some (.int x2), l3], [.int x2], σ) := by
  refine (r_iloadn 2 (show decode (zb m_PL_flattererHas) 4 = .ok (.iload_n 2, 1) from by decide +kernel) rfl).trans ?_
  exact r_goto 9 (show decode (zb m_PL_flattererHas) 5 = .ok (.goto (4), 3) from by decide +kernel) rfl
theorem b_PL_flattererHas_8 {C : CF} {d : Nat} {σ : HP} {l0 : Option Value} {l1 : Option Value} {l2 : Option Value} {l3 : Option Value}  : runF C d m_PL_flattererHas (8, [l0, l1, l2, l3], [], σ) = runF C d m_PL_flattererHas (9, [l0, l1, l2, l3], [.int ((0 : Int32))], σ) := by
  exact r_iconst (v := (0 : Int32)) (show decode (zb m_PL_flattererHas) 8 = .ok (.iconst (0), 1) from by decide +kernel) (by decide)
theorem b_PL_flattererHas_9 {C : CF} {d : Nat} {σ : HP} {s0 : Int32} {x0 : Int32} {l1 : Option Value} {l2 : Option Value} {l3 : Option Value}  : runF C d m_PL_flattererHas (9, [some (.int x0), l1, l2, l3], [.int s0], σ) = if ¬ x0 = 0 then runF C d m_PL_flattererHas (17, [some (.int x0), l1, l2, l3], [.int s0], σ) else runF C d m_PL_flattererHas (13, [some (.int x0), l1, l2, l3], [.int s0], σ) := by
  refine (r_iloadn 0 (show decode (zb m_PL_flattererHas) 9 = .ok (.iload_n 0, 1) from by decide +kernel) rfl).trans ?_
  exact r_if_ne 17 (show decode (zb m_PL_flattererHas) 10 = .ok (.ifCond .ne (7), 3) from by decide +kernel) rfl
theorem b_PL_flattererHas_13 {C : CF} {d : Nat} {σ : HP} {s0 : Int32} {x3 : Int32} {l0 : Option Value} {l1 : Option Value} {l2 : Option Value}  : runF C d m_PL_flattererHas (13, [l0, l1, l2, some (.int x3)], [.int s0], σ) = runF C d m_PL_flattererHas (18, [l0, l1, l2, some (.int x3)], [.int x3, .int s0], σ) := by
  refine (r_iloadn 3 (show decode (zb m_PL_flattererHas) 13 = .ok (.iload_n 3, 1) from by decide +kernel) rfl).trans ?_
  exact r_goto 18 (show decode (zb m_PL_flattererHas) 14 = .ok (.goto (4), 3) from by decide +kernel) rfl
theorem b_PL_flattererHas_17 {C : CF} {d : Nat} {σ : HP} {s0 : Int32} {l0 : Option Value} {l1 : Option Value} {l2 : Option Value} {l3 : Option Value}  : runF C d m_PL_flattererHas (17, [l0, l1, l2, l3], [.int s0], σ) = runF C d m_PL_flattererHas (18, [l0, l1, l2, l3], [.int ((0 : Int32)), .int s0], σ) := by
  exact r_iconst (v := (0 : Int32)) (show decode (zb m_PL_flattererHas) 17 = .ok (.iconst (0), 1) from by decide +kernel) (by decide)
theorem b_PL_flattererHas_18 {C : CF} {d : Nat} {σ : HP} {s0 : Int32} {s1 : Int32} {l0 : Option Value} {l1 : Option Value} {l2 : Option Value} {l3 : Option Value}  : runF C d m_PL_flattererHas (18, [l0, l1, l2, l3], [.int s0, .int s1], σ) = some (.inl (some (.int (s1 - s0))), σ) := by
  refine (r_isub (show decode (zb m_PL_flattererHas) 18 = .ok (.isub, 1) from by decide +kernel)).trans ?_
  exact r_iret (show decode (zb m_PL_flattererHas) 19 = .ok (.ireturn, 1) from by decide +kernel) rfl rfl
theorem e_PL_breath {d : Nat} {σ : HP} {a0 : Nat} {x1 : Int32} {x2 : Int32} {x3 : Int32} : callF (d + 1) m_PL_breath [.ref a0, .int x1, .int x2, .int x3] σ = runF (callF d) d m_PL_breath (0, [some (.ref a0), some (.int x1), some (.int x2), some (.int x3)], [], σ) := callF_in rfl rfl
theorem b_PL_breath_0 {C : CF} {d : Nat} {σ : HP} {a0 : Nat} {x1 : Int32} {l2 : Option Value} {l3 : Option Value} (h1 : a0 % 64 = 11) : runF C d m_PL_breath (0, [some (.ref a0), some (.int x1), l2, l3], [], σ) = bk C d m_PL_breath 2 [some (.ref a0), some (.int x1), l2, l3] [] (C m_PL_needMan [.ref a0, .int x1] σ) := by
  refine (r_aloadn 0 (show decode (zb m_PL_breath) 0 = .ok (.aload_n 0, 1) from by decide +kernel) rfl).trans ?_
  refine (r_iloadn 1 (show decode (zb m_PL_breath) 1 = .ok (.iload_n 1, 1) from by decide +kernel) rfl).trans ?_
  exact r_virt (args := [.int x1]) (rest := []) (show decode (zb m_PL_breath) 2 = .ok (.invokevirtual 215, 3) from by decide +kernel) rfl rfl rfl h1
theorem b_PL_breath_5 {C : CF} {d : Nat} {σ : HP} {a0 : Nat} {x2 : Int32} {l1 : Option Value} {l3 : Option Value} (h1 : a0 % 64 = 11) : runF C d m_PL_breath (5, [some (.ref a0), l1, some (.int x2), l3], [], σ) = bk C d m_PL_breath 8 [some (.ref a0), l1, some (.int x2), l3] [.ref a0] (C m_PL_isSetOfMen [.ref a0, .int x2] σ) := by
  refine (r_aloadn 0 (show decode (zb m_PL_breath) 5 = .ok (.aload_n 0, 1) from by decide +kernel) rfl).trans ?_
  refine (r_aloadn 0 (show decode (zb m_PL_breath) 6 = .ok (.aload_n 0, 1) from by decide +kernel) rfl).trans ?_
  refine (r_iloadn 2 (show decode (zb m_PL_breath) 7 = .ok (.iload_n 2, 1) from by decide +kernel) rfl).trans ?_
  exact r_virt (args := [.int x2]) (rest := [.ref a0]) (show decode (zb m_PL_breath) 8 = .ok (.invokevirtual 340, 3) from by decide +kernel) rfl rfl rfl h1
theorem b_PL_breath_11 {C : CF} {d : Nat} {σ : HP} {s0 : Int32} {r1 : Nat} {l0 : Option Value} {l1 : Option Value} {l2 : Option Value} {l3 : Option Value} (h1 : r1 % 64 = 11) : runF C d m_PL_breath (11, [l0, l1, l2, l3], [.int s0, .ref r1], σ) = bk C d m_PL_breath 11 [l0, l1, l2, l3] [] (C m_PL_needArgument [.ref r1, .int s0] σ) := by
  exact r_virt (args := [.int s0]) (rest := []) (show decode (zb m_PL_breath) 11 = .ok (.invokevirtual 181, 3) from by decide +kernel) rfl rfl rfl h1
theorem b_PL_breath_14 {C : CF} {d : Nat} {σ : HP} {a0 : Nat} {x3 : Int32} {l1 : Option Value} {l2 : Option Value}  : runF C d m_PL_breath (14, [some (.ref a0), l1, l2, some (.int x3)], [], σ) = bkN C d m_PL_breath 20 [some (.ref a0), l1, l2, some (.int x3)] [.ref a0] (C m_PL_isWithin [.int x3, .int ((0 : Int32)), .int ((9999 : Int32))] σ) := by
  refine (r_aloadn 0 (show decode (zb m_PL_breath) 14 = .ok (.aload_n 0, 1) from by decide +kernel) rfl).trans ?_
  refine (r_iloadn 3 (show decode (zb m_PL_breath) 15 = .ok (.iload_n 3, 1) from by decide +kernel) rfl).trans ?_
  refine (r_iconst (v := (0 : Int32)) (show decode (zb m_PL_breath) 16 = .ok (.iconst (0), 1) from by decide +kernel) (by decide)).trans ?_
  refine (r_sipush (v := (9999 : Int32)) (show decode (zb m_PL_breath) 17 = .ok (.sipush (9999), 3) from by decide +kernel) (by decide)).trans ?_
  exact r_stat (args := [.int x3, .int ((0 : Int32)), .int ((9999 : Int32))]) (rest := [.ref a0]) (show decode (zb m_PL_breath) 20 = .ok (.invokestatic 177, 3) from by decide +kernel) rfl (by decide) rfl rfl
theorem b_PL_breath_23 {C : CF} {d : Nat} {σ : HP} {s0 : Int32} {r1 : Nat} {l0 : Option Value} {l1 : Option Value} {l2 : Option Value} {l3 : Option Value} (h1 : r1 % 64 = 11) : runF C d m_PL_breath (23, [l0, l1, l2, l3], [.int s0, .ref r1], σ) = bk C d m_PL_breath 23 [l0, l1, l2, l3] [] (C m_PL_needArgument [.ref r1, .int s0] σ) := by
  exact r_virt (args := [.int s0]) (rest := []) (show decode (zb m_PL_breath) 23 = .ok (.invokevirtual 181, 3) from by decide +kernel) rfl rfl rfl h1
theorem b_PL_breath_26 {C : CF} {d : Nat} {σ : HP} {x2 : Int32} {x1 : Int32} {l0 : Option Value} {l3 : Option Value}  : runF C d m_PL_breath (26, [l0, some (.int x1), some (.int x2), l3], [], σ) = bkN C d m_PL_breath 28 [l0, some (.int x1), some (.int x2), l3] [] (C m_PL_isIn [.int x2, .int x1] σ) := by
  refine (r_iloadn 2 (show decode (zb m_PL_breath) 26 = .ok (.iload_n 2, 1) from by decide +kernel) rfl).trans ?_
  refine (r_iloadn 1 (show decode (zb m_PL_breath) 27 = .ok (.iload_n 1, 1) from by decide +kernel) rfl).trans ?_
  exact r_stat (args := [.int x2, .int x1]) (rest := []) (show decode (zb m_PL_breath) 28 = .ok (.invokestatic 343, 3) from by decide +kernel) rfl (by decide) rfl rfl
theorem b_PL_breath_31 {C : CF} {d : Nat} {σ : HP} {s0 : Int32} {l0 : Option Value} {l1 : Option Value} {l2 : Option Value} {l3 : Option Value}  : runF C d m_PL_breath (31, [l0, l1, l2, l3], [.int s0], σ) = if ¬ s0 = 0 then runF C d m_PL_breath (36, [l0, l1, l2, l3], [], σ) else runF C d m_PL_breath (34, [l0, l1, l2, l3], [], σ) := by
  exact r_if_ne 36 (show decode (zb m_PL_breath) 31 = .ok (.ifCond .ne (5), 3) from by decide +kernel) rfl
theorem b_PL_breath_34 {C : CF} {d : Nat} {σ : HP} {l0 : Option Value} {l1 : Option Value} {l2 : Option Value} {l3 : Option Value}  : runF C d m_PL_breath (34, [l0, l1, l2, l3], [], σ) = some (.inl (some (.int (0 : Int32))), σ) := by
  refine (r_iconst (v := (0 : Int32)) (show decode (zb m_PL_breath) 34 = .ok (.iconst (0), 1) from by decide +kernel) (by decide)).trans ?_
  exact r_iret (show decode (zb m_PL_breath) 35 = .ok (.ireturn, 1) from by decide +kernel) rfl rfl
theorem b_PL_breath_36 {C : CF} {d : Nat} {σ : HP} {a0 : Nat} {x1 : Int32} {l2 : Option Value} {l3 : Option Value} (h1 : a0 % 64 = 11) (h2 : (gR σ a0 1).isSome = true) (h3 : (dr (gR σ a0 1)) % 64 = 5) (h4 : (gR σ (dr (gR σ a0 1)) 2).isSome = true) (h5 : (dr (gR σ (dr (gR σ a0 1)) 2)) % 64 = 1) (h6 : (gR σ (dr (gR σ (dr (gR σ a0 1)) 2)) 5).isSome = true) : runF C d m_PL_breath (36, [some (.ref a0), some (.int x1), l2, l3], [], σ) = bkN C d m_PL_breath 47 [some (.ref a0), some (.int x1), l2, l3] [] (C m_PL_at [.ref (dr (gR σ (dr (gR σ (dr (gR σ a0 1)) 2)) 5)), .int x1] σ) := by
  refine (r_aloadn 0 (show decode (zb m_PL_breath) 36 = .ok (.aload_n 0, 1) from by decide +kernel) rfl).trans ?_
  refine (r_getR (show decode (zb m_PL_breath) 37 = .ok (.getfield 19, 3) from by decide +kernel) rfl rfl h1 h2).trans ?_
  refine (r_getR (show decode (zb m_PL_breath) 40 = .ok (.getfield 146, 3) from by decide +kernel) rfl rfl h3 h4).trans ?_
  refine (r_getR (show decode (zb m_PL_breath) 43 = .ok (.getfield 232, 3) from by decide +kernel) rfl rfl h5 h6).trans ?_
  refine (r_iloadn 1 (show decode (zb m_PL_breath) 46 = .ok (.iload_n 1, 1) from by decide +kernel) rfl).trans ?_
  exact r_stat (args := [.ref (dr (gR σ (dr (gR σ (dr (gR σ a0 1)) 2)) 5)), .int x1]) (rest := []) (show decode (zb m_PL_breath) 47 = .ok (.invokestatic 225, 3) from by decide +kernel) rfl (by decide) rfl rfl
theorem b_PL_breath_50 {C : CF} {d : Nat} {σ : HP} {s0 : Int32} {a0 : Nat} {x2 : Int32} {x3 : Int32} {l1 : Option Value} (h1 : a0 % 64 = 11) (h2 : (gR σ a0 1).isSome = true) (h3 : (dr (gR σ a0 1)) % 64 = 5) : runF C d m_PL_breath (50, [some (.ref a0), l1, some (.int x2), some (.int x3)], [.int s0], σ) = bk C d m_PL_breath 56 [some (.ref a0), l1, some (.int x2), some (.int x3)] [.int s0] (C m_Lift_breathBound [.ref (dr (gR σ a0 1)), .int x2, .int x3] σ) := by
  refine (r_aloadn 0 (show decode (zb m_PL_breath) 50 = .ok (.aload_n 0, 1) from by decide +kernel) rfl).trans ?_
  refine (r_getR (show decode (zb m_PL_breath) 51 = .ok (.getfield 19, 3) from by decide +kernel) rfl rfl h1 h2).trans ?_
  refine (r_iloadn 2 (show decode (zb m_PL_breath) 54 = .ok (.iload_n 2, 1) from by decide +kernel) rfl).trans ?_
  refine (r_iloadn 3 (show decode (zb m_PL_breath) 55 = .ok (.iload_n 3, 1) from by decide +kernel) rfl).trans ?_
  exact r_virt (args := [.int x2, .int x3]) (rest := [.int s0]) (show decode (zb m_PL_breath) 56 = .ok (.invokevirtual 347, 3) from by decide +kernel) rfl rfl rfl h3
theorem b_PL_breath_59 {C : CF} {d : Nat} {σ : HP} {s0 : Int32} {s1 : Int32} {l0 : Option Value} {l1 : Option Value} {l2 : Option Value} {l3 : Option Value}  : runF C d m_PL_breath (59, [l0, l1, l2, l3], [.int s0, .int s1], σ) = some (.inl (some (.int (p_min s1 s0))), σ) := by
  refine (r_min (show decode (zb m_PL_breath) 59 = .ok (.invokestatic 350, 3) from by decide +kernel) rfl rfl).trans ?_
  exact r_iret (show decode (zb m_PL_breath) 62 = .ok (.ireturn, 1) from by decide +kernel) rfl rfl
theorem e_PL_isSetOfMen {d : Nat} {σ : HP} {a0 : Nat} {x1 : Int32} : callF (d + 1) m_PL_isSetOfMen [.ref a0, .int x1] σ = runF (callF d) d m_PL_isSetOfMen (0, [some (.ref a0), some (.int x1)], [], σ) := callF_in rfl rfl
theorem b_PL_isSetOfMen_0 {C : CF} {d : Nat} {σ : HP} {x1 : Int32} {a0 : Nat} (h1 : a0 % 64 = 11) (h2 : (gR σ a0 1).isSome = true) (h3 : (dr (gR σ a0 1)) % 64 = 5) (h4 : (gR σ (dr (gR σ a0 1)) 0).isSome = true) (h5 : (dr (gR σ (dr (gR σ a0 1)) 0)) % 64 = 2) : runF C d m_PL_isSetOfMen (0, [some (.ref a0), some (.int x1)], [], σ) = bkN C d m_PL_isSetOfMen 16 [some (.ref a0), some (.int x1)] [] (C m_PL_isWithin [.int x1, .int ((0 : Int32)), .int ((p_shl (1 : Int32) (gI σ (dr (gR σ (dr (gR σ a0 1)) 0)) 1)) - (1 : Int32))] σ) := by
  refine (r_iloadn 1 (show decode (zb m_PL_isSetOfMen) 0 = .ok (.iload_n 1, 1) from by decide +kernel) rfl).trans ?_
  refine (r_iconst (v := (0 : Int32)) (show decode (zb m_PL_isSetOfMen) 1 = .ok (.iconst (0), 1) from by decide +kernel) (by decide)).trans ?_
  refine (r_iconst (v := (1 : Int32)) (show decode (zb m_PL_isSetOfMen) 2 = .ok (.iconst (1), 1) from by decide +kernel) (by decide)).trans ?_
  refine (r_aloadn 0 (show decode (zb m_PL_isSetOfMen) 3 = .ok (.aload_n 0, 1) from by decide +kernel) rfl).trans ?_
  refine (r_getR (show decode (zb m_PL_isSetOfMen) 4 = .ok (.getfield 19, 3) from by decide +kernel) rfl rfl h1 h2).trans ?_
  refine (r_getR (show decode (zb m_PL_isSetOfMen) 7 = .ok (.getfield 138, 3) from by decide +kernel) rfl rfl h3 h4).trans ?_
  refine (r_getI (show decode (zb m_PL_isSetOfMen) 10 = .ok (.getfield 116, 3) from by decide +kernel) rfl rfl h5).trans ?_
  refine (r_ishl (show decode (zb m_PL_isSetOfMen) 13 = .ok (.ishl, 1) from by decide +kernel)).trans ?_
  refine (r_iconst (v := (1 : Int32)) (show decode (zb m_PL_isSetOfMen) 14 = .ok (.iconst (1), 1) from by decide +kernel) (by decide)).trans ?_
  refine (r_isub (show decode (zb m_PL_isSetOfMen) 15 = .ok (.isub, 1) from by decide +kernel)).trans ?_
  exact r_stat (args := [.int x1, .int ((0 : Int32)), .int ((p_shl (1 : Int32) (gI σ (dr (gR σ (dr (gR σ a0 1)) 0)) 1)) - (1 : Int32))]) (rest := []) (show decode (zb m_PL_isSetOfMen) 16 = .ok (.invokestatic 177, 3) from by decide +kernel) rfl (by decide) rfl rfl
theorem b_PL_isSetOfMen_19 {C : CF} {d : Nat} {σ : HP} {s0 : Int32} {l0 : Option Value} {l1 : Option Value} (h1 : s0 = 0 ∨ s0 = 1) : runF C d m_PL_isSetOfMen (19, [l0, l1], [.int s0], σ) = some (.inl (some (.int s0)), σ) := by
  exact r_bret (show decode (zb m_PL_isSetOfMen) 19 = .ok (.ireturn, 1) from by decide +kernel) rfl h1
theorem e_PL_heaviest {d : Nat} {σ : HP} {a0 : Nat} {x1 : Int32} : callF (d + 1) m_PL_heaviest [.ref a0, .int x1] σ = runF (callF d) d m_PL_heaviest (0, [some (.ref a0), some (.int x1), none, none], [], σ) := callF_in rfl rfl
theorem b_PL_heaviest_0 {C : CF} {d : Nat} {σ : HP} {a0 : Nat} {x1 : Int32} {l2 : Option Value} {l3 : Option Value}  : runF C d m_PL_heaviest (0, [some (.ref a0), some (.int x1), l2, l3], [], σ) = bkN C d m_PL_heaviest 4 [some (.ref a0), some (.int x1), l2, l3] [.ref a0] (C m_PL_isWithin [.int x1, .int ((0 : Int32)), .int ((1 : Int32))] σ) := by
  refine (r_aloadn 0 (show decode (zb m_PL_heaviest) 0 = .ok (.aload_n 0, 1) from by decide +kernel) rfl).trans ?_
  refine (r_iloadn 1 (show decode (zb m_PL_heaviest) 1 = .ok (.iload_n 1, 1) from by decide +kernel) rfl).trans ?_
  refine (r_iconst (v := (0 : Int32)) (show decode (zb m_PL_heaviest) 2 = .ok (.iconst (0), 1) from by decide +kernel) (by decide)).trans ?_
  refine (r_iconst (v := (1 : Int32)) (show decode (zb m_PL_heaviest) 3 = .ok (.iconst (1), 1) from by decide +kernel) (by decide)).trans ?_
  exact r_stat (args := [.int x1, .int ((0 : Int32)), .int ((1 : Int32))]) (rest := [.ref a0]) (show decode (zb m_PL_heaviest) 4 = .ok (.invokestatic 177, 3) from by decide +kernel) rfl (by decide) rfl rfl
theorem b_PL_heaviest_7 {C : CF} {d : Nat} {σ : HP} {s0 : Int32} {r1 : Nat} {l0 : Option Value} {l1 : Option Value} {l2 : Option Value} {l3 : Option Value} (h1 : r1 % 64 = 11) : runF C d m_PL_heaviest (7, [l0, l1, l2, l3], [.int s0, .ref r1], σ) = bk C d m_PL_heaviest 7 [l0, l1, l2, l3] [] (C m_PL_needArgument [.ref r1, .int s0] σ) := by
  exact r_virt (args := [.int s0]) (rest := []) (show decode (zb m_PL_heaviest) 7 = .ok (.invokevirtual 181, 3) from by decide +kernel) rfl rfl rfl h1
theorem b_PL_heaviest_10 {C : CF} {d : Nat} {σ : HP} {l0 : Option Value} {l1 : Option Value} {l2 : Option Value} {l3 : Option Value}  : runF C d m_PL_heaviest (10, [l0, l1, l2, l3], [], σ) = runF C d m_PL_heaviest (14, [l0, l1, some (.int ((-1 : Int32))), some (.int ((0 : Int32)))], [], σ) := by
  refine (r_iconst (v := (-1 : Int32)) (show decode (zb m_PL_heaviest) 10 = .ok (.iconst (-1), 1) from by decide +kernel) (by decide)).trans ?_
  refine (r_istoren 2 (show decode (zb m_PL_heaviest) 11 = .ok (.istore_n 2, 1) from by decide +kernel) rfl).trans ?_
  refine (r_iconst (v := (0 : Int32)) (show decode (zb m_PL_heaviest) 12 = .ok (.iconst (0), 1) from by decide +kernel) (by decide)).trans ?_
  exact r_istoren 3 (show decode (zb m_PL_heaviest) 13 = .ok (.istore_n 3, 1) from by decide +kernel) rfl
theorem b_PL_heaviest_14 {C : CF} {d : Nat} {σ : HP} {x3 : Int32} {a0 : Nat} {l1 : Option Value} {l2 : Option Value} (h1 : a0 % 64 = 11) (h2 : (gR σ a0 1).isSome = true) (h3 : (dr (gR σ a0 1)) % 64 = 5) (h4 : (gR σ (dr (gR σ a0 1)) 0).isSome = true) (h5 : (dr (gR σ (dr (gR σ a0 1)) 0)) % 64 = 2) : runF C d m_PL_heaviest (14, [some (.ref a0), l1, l2, some (.int x3)], [], σ) = if (gI σ (dr (gR σ (dr (gR σ a0 1)) 0)) 1) ≤ x3 then runF C d m_PL_heaviest (60, [some (.ref a0), l1, l2, some (.int x3)], [], σ) else runF C d m_PL_heaviest (28, [some (.ref a0), l1, l2, some (.int x3)], [], σ) := by
  refine (r_iloadn 3 (show decode (zb m_PL_heaviest) 14 = .ok (.iload_n 3, 1) from by decide +kernel) rfl).trans ?_
  refine (r_aloadn 0 (show decode (zb m_PL_heaviest) 15 = .ok (.aload_n 0, 1) from by decide +kernel) rfl).trans ?_
  refine (r_getR (show decode (zb m_PL_heaviest) 16 = .ok (.getfield 19, 3) from by decide +kernel) rfl rfl h1 h2).trans ?_
  refine (r_getR (show decode (zb m_PL_heaviest) 19 = .ok (.getfield 138, 3) from by decide +kernel) rfl rfl h3 h4).trans ?_
  refine (r_getI (show decode (zb m_PL_heaviest) 22 = .ok (.getfield 116, 3) from by decide +kernel) rfl rfl h5).trans ?_
  exact r_icmp_ge 60 (show decode (zb m_PL_heaviest) 25 = .ok (.if_icmp .ge (35), 3) from by decide +kernel) rfl
theorem b_PL_heaviest_28 {C : CF} {d : Nat} {σ : HP} {x2 : Int32} {l0 : Option Value} {l1 : Option Value} {l3 : Option Value}  : runF C d m_PL_heaviest (28, [l0, l1, some (.int x2), l3], [], σ) = if x2 = (-1 : Int32) then runF C d m_PL_heaviest (52, [l0, l1, some (.int x2), l3], [], σ) else runF C d m_PL_heaviest (33, [l0, l1, some (.int x2), l3], [], σ) := by
  refine (r_iloadn 2 (show decode (zb m_PL_heaviest) 28 = .ok (.iload_n 2, 1) from by decide +kernel) rfl).trans ?_
  refine (r_iconst (v := (-1 : Int32)) (show decode (zb m_PL_heaviest) 29 = .ok (.iconst (-1), 1) from by decide +kernel) (by decide)).trans ?_
  exact r_icmp_eq 52 (show decode (zb m_PL_heaviest) 30 = .ok (.if_icmp .eq (22), 3) from by decide +kernel) rfl
theorem b_PL_heaviest_33 {C : CF} {d : Nat} {σ : HP} {a0 : Nat} {x3 : Int32} {l1 : Option Value} {l2 : Option Value} (h1 : a0 % 64 = 11) (h2 : (gR σ a0 1).isSome = true) (h3 : (dr (gR σ a0 1)) % 64 = 5) : runF C d m_PL_heaviest (33, [some (.ref a0), l1, l2, some (.int x3)], [], σ) = bk C d m_PL_heaviest 38 [some (.ref a0), l1, l2, some (.int x3)] [] (C m_Lift_heavyOf [.ref (dr (gR σ a0 1)), .int x3] σ) := by
  refine (r_aloadn 0 (show decode (zb m_PL_heaviest) 33 = .ok (.aload_n 0, 1) from by decide +kernel) rfl).trans ?_
  refine (r_getR (show decode (zb m_PL_heaviest) 34 = .ok (.getfield 19, 3) from by decide +kernel) rfl rfl h1 h2).trans ?_
  refine (r_iloadn 3 (show decode (zb m_PL_heaviest) 37 = .ok (.iload_n 3, 1) from by decide +kernel) rfl).trans ?_
  exact r_virt (args := [.int x3]) (rest := []) (show decode (zb m_PL_heaviest) 38 = .ok (.invokevirtual 235, 3) from by decide +kernel) rfl rfl rfl h3
theorem b_PL_heaviest_41 {C : CF} {d : Nat} {σ : HP} {s0 : Int32} {a0 : Nat} {x2 : Int32} {l1 : Option Value} {l3 : Option Value} (h1 : a0 % 64 = 11) (h2 : (gR σ a0 1).isSome = true) (h3 : (dr (gR σ a0 1)) % 64 = 5) : runF C d m_PL_heaviest (41, [some (.ref a0), l1, some (.int x2), l3], [.int s0], σ) = bk C d m_PL_heaviest 46 [some (.ref a0), l1, some (.int x2), l3] [.int s0] (C m_Lift_heavyOf [.ref (dr (gR σ a0 1)), .int x2] σ) := by
  refine (r_aloadn 0 (show decode (zb m_PL_heaviest) 41 = .ok (.aload_n 0, 1) from by decide +kernel) rfl).trans ?_
  refine (r_getR (show decode (zb m_PL_heaviest) 42 = .ok (.getfield 19, 3) from by decide +kernel) rfl rfl h1 h2).trans ?_
  refine (r_iloadn 2 (show decode (zb m_PL_heaviest) 45 = .ok (.iload_n 2, 1) from by decide +kernel) rfl).trans ?_
  exact r_virt (args := [.int x2]) (rest := [.int s0]) (show decode (zb m_PL_heaviest) 46 = .ok (.invokevirtual 235, 3) from by decide +kernel) rfl rfl rfl h3
theorem b_PL_heaviest_49 {C : CF} {d : Nat} {σ : HP} {s0 : Int32} {s1 : Int32} {l0 : Option Value} {l1 : Option Value} {l2 : Option Value} {l3 : Option Value}  : runF C d m_PL_heaviest (49, [l0, l1, l2, l3], [.int s0, .int s1], σ) = if s1 ≤ s0 then runF C d m_PL_heaviest (54, [l0, l1, l2, l3], [], σ) else runF C d m_PL_heaviest (52, [l0, l1, l2, l3], [], σ) := by
  exact r_icmp_le 54 (show decode (zb m_PL_heaviest) 49 = .ok (.if_icmp .le (5), 3) from by decide +kernel) rfl
theorem b_PL_heaviest_52 {C : CF} {d : Nat} {σ : HP} {x3 : Int32} {l0 : Option Value} {l1 : Option Value} {l2 : Option Value}  : runF C d m_PL_heaviest (52, [l0, l1, l2, some (.int x3)], [], σ) = runF C d m_PL_heaviest (54, [l0, l1, some (.int x3), some (.int x3)], [], σ) := by
  refine (r_iloadn 3 (show decode (zb m_PL_heaviest) 52 = .ok (.iload_n 3, 1) from by decide +kernel) rfl).trans ?_
  exact r_istoren 2 (show decode (zb m_PL_heaviest) 53 = .ok (.istore_n 2, 1) from by decide +kernel) rfl
theorem b_PL_heaviest_54 {C : CF} {d : Nat} {σ : HP} {x3 : Int32} {l0 : Option Value} {l1 : Option Value} {l2 : Option Value}  : runF C d m_PL_heaviest (54, [l0, l1, l2, some (.int x3)], [], σ) = runF C d m_PL_heaviest (14, [l0, l1, l2, some (.int (x3 + (1 : Int32)))], [], σ) := by
  refine (r_iinc 3 (v := (1 : Int32)) (show decode (zb m_PL_heaviest) 54 = .ok (.iinc 3 (1), 3) from by decide +kernel) rfl rfl (by decide)).trans ?_
  exact r_goto 14 (show decode (zb m_PL_heaviest) 57 = .ok (.goto (-43), 3) from by decide +kernel) rfl
theorem b_PL_heaviest_60 {C : CF} {d : Nat} {σ : HP} {x1 : Int32} {l0 : Option Value} {l2 : Option Value} {l3 : Option Value}  : runF C d m_PL_heaviest (60, [l0, some (.int x1), l2, l3], [], σ) = if x1 = 0 then runF C d m_PL_heaviest (69, [l0, some (.int x1), l2, l3], [], σ) else runF C d m_PL_heaviest (64, [l0, some (.int x1), l2, l3], [], σ) := by
  refine (r_iloadn 1 (show decode (zb m_PL_heaviest) 60 = .ok (.iload_n 1, 1) from by decide +kernel) rfl).trans ?_
  exact r_if_eq 69 (show decode (zb m_PL_heaviest) 61 = .ok (.ifCond .eq (8), 3) from by decide +kernel) rfl
theorem b_PL_heaviest_64 {C : CF} {d : Nat} {σ : HP} {x2 : Int32} {l0 : Option Value} {l1 : Option Value} {l3 : Option Value}  : runF C d m_PL_heaviest (64, [l0, l1, some (.int x2), l3], [], σ) = if ¬ x2 = (-1 : Int32) then runF C d m_PL_heaviest (73, [l0, l1, some (.int x2), l3], [], σ) else runF C d m_PL_heaviest (69, [l0, l1, some (.int x2), l3], [], σ) := by
  refine (r_iloadn 2 (show decode (zb m_PL_heaviest) 64 = .ok (.iload_n 2, 1) from by decide +kernel) rfl).trans ?_
  refine (r_iconst (v := (-1 : Int32)) (show decode (zb m_PL_heaviest) 65 = .ok (.iconst (-1), 1) from by decide +kernel) (by decide)).trans ?_
  exact r_icmp_ne 73 (show decode (zb m_PL_heaviest) 66 = .ok (.if_icmp .ne (7), 3) from by decide +kernel) rfl
theorem b_PL_heaviest_69 {C : CF} {d : Nat} {σ : HP} {x2 : Int32} {l0 : Option Value} {l1 : Option Value} {l3 : Option Value}  : runF C d m_PL_heaviest (69, [l0, l1, some (.int x2), l3], [], σ) = runF C d m_PL_heaviest (81, [l0, l1, some (.int x2), l3], [.int x2], σ) := by
  refine (r_iloadn 2 (show decode (zb m_PL_heaviest) 69 = .ok (.iload_n 2, 1) from by decide +kernel) rfl).trans ?_
  exact r_goto 81 (show decode (zb m_PL_heaviest) 70 = .ok (.goto (11), 3) from by decide +kernel) rfl
theorem b_PL_heaviest_73 {C : CF} {d : Nat} {σ : HP} {a0 : Nat} {x2 : Int32} {l1 : Option Value} {l3 : Option Value} (h1 : a0 % 64 = 11) (h2 : (gR σ a0 1).isSome = true) (h3 : (dr (gR σ a0 1)) % 64 = 5) : runF C d m_PL_heaviest (73, [some (.ref a0), l1, some (.int x2), l3], [], σ) = bk C d m_PL_heaviest 78 [some (.ref a0), l1, some (.int x2), l3] [] (C m_Lift_heavyOf [.ref (dr (gR σ a0 1)), .int x2] σ) := by
  refine (r_aloadn 0 (show decode (zb m_PL_heaviest) 73 = .ok (.aload_n 0, 1) from by decide +kernel) rfl).trans ?_
  refine (r_getR (show decode (zb m_PL_heaviest) 74 = .ok (.getfield 19, 3) from by decide +kernel) rfl rfl h1 h2).trans ?_
  refine (r_iloadn 2 (show decode (zb m_PL_heaviest) 77 = .ok (.iload_n 2, 1) from by decide +kernel) rfl).trans ?_
  exact r_virt (args := [.int x2]) (rest := []) (show decode (zb m_PL_heaviest) 78 = .ok (.invokevirtual 235, 3) from by decide +kernel) rfl rfl rfl h3
theorem b_PL_heaviest_81 {C : CF} {d : Nat} {σ : HP} {s0 : Int32} {l0 : Option Value} {l1 : Option Value} {l2 : Option Value} {l3 : Option Value}  : runF C d m_PL_heaviest (81, [l0, l1, l2, l3], [.int s0], σ) = some (.inl (some (.int s0)), σ) := by
  exact r_iret (show decode (zb m_PL_heaviest) 81 = .ok (.ireturn, 1) from by decide +kernel) rfl rfl
theorem e_PL_floor {d : Nat} {σ : HP} {a0 : Nat} {x1 : Int32} : callF (d + 1) m_PL_floor [.ref a0, .int x1] σ = runF (callF d) d m_PL_floor (0, [some (.ref a0), some (.int x1), none, none], [], σ) := callF_in rfl rfl
theorem b_PL_floor_0 {C : CF} {d : Nat} {σ : HP} {a0 : Nat} {x1 : Int32} {l2 : Option Value} {l3 : Option Value} (h1 : a0 % 64 = 11) (h2 : (gR σ a0 1).isSome = true) (h3 : (dr (gR σ a0 1)) % 64 = 5) (h4 : (gR σ (dr (gR σ a0 1)) 0).isSome = true) (h5 : (dr (gR σ (dr (gR σ a0 1)) 0)) % 64 = 2) : runF C d m_PL_floor (0, [some (.ref a0), some (.int x1), l2, l3], [], σ) = bkN C d m_PL_floor 15 [some (.ref a0), some (.int x1), l2, l3] [.ref a0] (C m_PL_isWithin [.int x1, .int ((0 : Int32)), .int ((gI σ (dr (gR σ (dr (gR σ a0 1)) 0)) 0) - (1 : Int32))] σ) := by
  refine (r_aloadn 0 (show decode (zb m_PL_floor) 0 = .ok (.aload_n 0, 1) from by decide +kernel) rfl).trans ?_
  refine (r_iloadn 1 (show decode (zb m_PL_floor) 1 = .ok (.iload_n 1, 1) from by decide +kernel) rfl).trans ?_
  refine (r_iconst (v := (0 : Int32)) (show decode (zb m_PL_floor) 2 = .ok (.iconst (0), 1) from by decide +kernel) (by decide)).trans ?_
  refine (r_aloadn 0 (show decode (zb m_PL_floor) 3 = .ok (.aload_n 0, 1) from by decide +kernel) rfl).trans ?_
  refine (r_getR (show decode (zb m_PL_floor) 4 = .ok (.getfield 19, 3) from by decide +kernel) rfl rfl h1 h2).trans ?_
  refine (r_getR (show decode (zb m_PL_floor) 7 = .ok (.getfield 138, 3) from by decide +kernel) rfl rfl h3 h4).trans ?_
  refine (r_getI (show decode (zb m_PL_floor) 10 = .ok (.getfield 185, 3) from by decide +kernel) rfl rfl h5).trans ?_
  refine (r_iconst (v := (1 : Int32)) (show decode (zb m_PL_floor) 13 = .ok (.iconst (1), 1) from by decide +kernel) (by decide)).trans ?_
  refine (r_isub (show decode (zb m_PL_floor) 14 = .ok (.isub, 1) from by decide +kernel)).trans ?_
  exact r_stat (args := [.int x1, .int ((0 : Int32)), .int ((gI σ (dr (gR σ (dr (gR σ a0 1)) 0)) 0) - (1 : Int32))]) (rest := [.ref a0]) (show decode (zb m_PL_floor) 15 = .ok (.invokestatic 177, 3) from by decide +kernel) rfl (by decide) rfl rfl
theorem b_PL_floor_18 {C : CF} {d : Nat} {σ : HP} {s0 : Int32} {r1 : Nat} {l0 : Option Value} {l1 : Option Value} {l2 : Option Value} {l3 : Option Value} (h1 : r1 % 64 = 11) : runF C d m_PL_floor (18, [l0, l1, l2, l3], [.int s0, .ref r1], σ) = bk C d m_PL_floor 18 [l0, l1, l2, l3] [] (C m_PL_needArgument [.ref r1, .int s0] σ) := by
  exact r_virt (args := [.int s0]) (rest := []) (show decode (zb m_PL_floor) 18 = .ok (.invokevirtual 181, 3) from by decide +kernel) rfl rfl rfl h1
theorem b_PL_floor_21 {C : CF} {d : Nat} {σ : HP} {l0 : Option Value} {l1 : Option Value} {l2 : Option Value} {l3 : Option Value}  : runF C d m_PL_floor (21, [l0, l1, l2, l3], [], σ) = runF C d m_PL_floor (25, [l0, l1, some (.int ((0 : Int32))), some (.int ((0 : Int32)))], [], σ) := by
  refine (r_iconst (v := (0 : Int32)) (show decode (zb m_PL_floor) 21 = .ok (.iconst (0), 1) from by decide +kernel) (by decide)).trans ?_
  refine (r_istoren 2 (show decode (zb m_PL_floor) 22 = .ok (.istore_n 2, 1) from by decide +kernel) rfl).trans ?_
  refine (r_iconst (v := (0 : Int32)) (show decode (zb m_PL_floor) 23 = .ok (.iconst (0), 1) from by decide +kernel) (by decide)).trans ?_
  exact r_istoren 3 (show decode (zb m_PL_floor) 24 = .ok (.istore_n 3, 1) from by decide +kernel) rfl
theorem b_PL_floor_25 {C : CF} {d : Nat} {σ : HP} {x3 : Int32} {a0 : Nat} {l1 : Option Value} {l2 : Option Value} (h1 : a0 % 64 = 11) (h2 : (gR σ a0 1).isSome = true) (h3 : (dr (gR σ a0 1)) % 64 = 5) (h4 : (gR σ (dr (gR σ a0 1)) 0).isSome = true) (h5 : (dr (gR σ (dr (gR σ a0 1)) 0)) % 64 = 2) : runF C d m_PL_floor (25, [some (.ref a0), l1, l2, some (.int x3)], [], σ) = if (gI σ (dr (gR σ (dr (gR σ a0 1)) 0)) 1) ≤ x3 then runF C d m_PL_floor (74, [some (.ref a0), l1, l2, some (.int x3)], [], σ) else runF C d m_PL_floor (39, [some (.ref a0), l1, l2, some (.int x3)], [], σ) := by
  refine (r_iloadn 3 (show decode (zb m_PL_floor) 25 = .ok (.iload_n 3, 1) from by decide +kernel) rfl).trans ?_
  refine (r_aloadn 0 (show decode (zb m_PL_floor) 26 = .ok (.aload_n 0, 1) from by decide +kernel) rfl).trans ?_
  refine (r_getR (show decode (zb m_PL_floor) 27 = .ok (.getfield 19, 3) from by decide +kernel) rfl rfl h1 h2).trans ?_
  refine (r_getR (show decode (zb m_PL_floor) 30 = .ok (.getfield 138, 3) from by decide +kernel) rfl rfl h3 h4).trans ?_
  refine (r_getI (show decode (zb m_PL_floor) 33 = .ok (.getfield 116, 3) from by decide +kernel) rfl rfl h5).trans ?_
  exact r_icmp_ge 74 (show decode (zb m_PL_floor) 36 = .ok (.if_icmp .ge (38), 3) from by decide +kernel) rfl
theorem b_PL_floor_39 {C : CF} {d : Nat} {σ : HP} {a0 : Nat} {x3 : Int32} {l1 : Option Value} {l2 : Option Value} (h1 : a0 % 64 = 11) (h2 : (gR σ a0 1).isSome = true) (h3 : (dr (gR σ a0 1)) % 64 = 5) : runF C d m_PL_floor (39, [some (.ref a0), l1, l2, some (.int x3)], [], σ) = bk C d m_PL_floor 44 [some (.ref a0), l1, l2, some (.int x3)] [] (C m_Lift_isInside [.ref (dr (gR σ a0 1)), .int x3] σ) := by
  refine (r_aloadn 0 (show decode (zb m_PL_floor) 39 = .ok (.aload_n 0, 1) from by decide +kernel) rfl).trans ?_
  refine (r_getR (show decode (zb m_PL_floor) 40 = .ok (.getfield 19, 3) from by decide +kernel) rfl rfl h1 h2).trans ?_
  refine (r_iloadn 3 (show decode (zb m_PL_floor) 43 = .ok (.iload_n 3, 1) from by decide +kernel) rfl).trans ?_
  exact r_virt (args := [.int x3]) (rest := []) (show decode (zb m_PL_floor) 44 = .ok (.invokevirtual 238, 3) from by decide +kernel) rfl rfl rfl h3
theorem b_PL_floor_47 {C : CF} {d : Nat} {σ : HP} {s0 : Int32} {l0 : Option Value} {l1 : Option Value} {l2 : Option Value} {l3 : Option Value}  : runF C d m_PL_floor (47, [l0, l1, l2, l3], [.int s0], σ) = if ¬ s0 = 0 then runF C d m_PL_floor (68, [l0, l1, l2, l3], [], σ) else runF C d m_PL_floor (50, [l0, l1, l2, l3], [], σ) := by
  exact r_if_ne 68 (show decode (zb m_PL_floor) 47 = .ok (.ifCond .ne (21), 3) from by decide +kernel) rfl
theorem b_PL_floor_50 {C : CF} {d : Nat} {σ : HP} {a0 : Nat} {x3 : Int32} {l1 : Option Value} {l2 : Option Value} (h1 : a0 % 64 = 11) (h2 : (gR σ a0 1).isSome = true) (h3 : (dr (gR σ a0 1)) % 64 = 5) : runF C d m_PL_floor (50, [some (.ref a0), l1, l2, some (.int x3)], [], σ) = bk C d m_PL_floor 55 [some (.ref a0), l1, l2, some (.int x3)] [] (C m_Lift_placeOf [.ref (dr (gR σ a0 1)), .int x3] σ) := by
  refine (r_aloadn 0 (show decode (zb m_PL_floor) 50 = .ok (.aload_n 0, 1) from by decide +kernel) rfl).trans ?_
  refine (r_getR (show decode (zb m_PL_floor) 51 = .ok (.getfield 19, 3) from by decide +kernel) rfl rfl h1 h2).trans ?_
  refine (r_iloadn 3 (show decode (zb m_PL_floor) 54 = .ok (.iload_n 3, 1) from by decide +kernel) rfl).trans ?_
  exact r_virt (args := [.int x3]) (rest := []) (show decode (zb m_PL_floor) 55 = .ok (.invokevirtual 218, 3) from by decide +kernel) rfl rfl rfl h3
theorem b_PL_floor_58 {C : CF} {d : Nat} {σ : HP} {s0 : Int32} {x1 : Int32} {l0 : Option Value} {l2 : Option Value} {l3 : Option Value}  : runF C d m_PL_floor (58, [l0, some (.int x1), l2, l3], [.int s0], σ) = if ¬ s0 = x1 then runF C d m_PL_floor (68, [l0, some (.int x1), l2, l3], [], σ) else runF C d m_PL_floor (62, [l0, some (.int x1), l2, l3], [], σ) := by
  refine (r_iloadn 1 (show decode (zb m_PL_floor) 58 = .ok (.iload_n 1, 1) from by decide +kernel) rfl).trans ?_
  exact r_icmp_ne 68 (show decode (zb m_PL_floor) 59 = .ok (.if_icmp .ne (9), 3) from by decide +kernel) rfl
theorem b_PL_floor_62 {C : CF} {d : Nat} {σ : HP} {x2 : Int32} {x3 : Int32} {l0 : Option Value} {l1 : Option Value}  : runF C d m_PL_floor (62, [l0, l1, some (.int x2), some (.int x3)], [], σ) = runF C d m_PL_floor (68, [l0, l1, some (.int (x2 ||| (p_shl (1 : Int32) x3))), some (.int x3)], [], σ) := by
  refine (r_iloadn 2 (show decode (zb m_PL_floor) 62 = .ok (.iload_n 2, 1) from by decide +kernel) rfl).trans ?_
  refine (r_iconst (v := (1 : Int32)) (show decode (zb m_PL_floor) 63 = .ok (.iconst (1), 1) from by decide +kernel) (by decide)).trans ?_
  refine (r_iloadn 3 (show decode (zb m_PL_floor) 64 = .ok (.iload_n 3, 1) from by decide +kernel) rfl).trans ?_
  refine (r_ishl (show decode (zb m_PL_floor) 65 = .ok (.ishl, 1) from by decide +kernel)).trans ?_
  refine (r_ior (show decode (zb m_PL_floor) 66 = .ok (.ior, 1) from by decide +kernel)).trans ?_
  exact r_istoren 2 (show decode (zb m_PL_floor) 67 = .ok (.istore_n 2, 1) from by decide +kernel) rfl
theorem b_PL_floor_68 {C : CF} {d : Nat} {σ : HP} {x3 : Int32} {l0 : Option Value} {l1 : Option Value} {l2 : Option Value}  : runF C d m_PL_floor (68, [l0, l1, l2, some (.int x3)], [], σ) = runF C d m_PL_floor (25, [l0, l1, l2, some (.int (x3 + (1 : Int32)))], [], σ) := by
  refine (r_iinc 3 (v := (1 : Int32)) (show decode (zb m_PL_floor) 68 = .ok (.iinc 3 (1), 3) from by decide +kernel) rfl rfl (by decide)).trans ?_
  exact r_goto 25 (show decode (zb m_PL_floor) 71 = .ok (.goto (-46), 3) from by decide +kernel) rfl
theorem b_PL_floor_74 {C : CF} {d : Nat} {σ : HP} {x2 : Int32} {l0 : Option Value} {l1 : Option Value} {l3 : Option Value}  : runF C d m_PL_floor (74, [l0, l1, some (.int x2), l3], [], σ) = some (.inl (some (.int x2)), σ) := by
  refine (r_iloadn 2 (show decode (zb m_PL_floor) 74 = .ok (.iload_n 2, 1) from by decide +kernel) rfl).trans ?_
  exact r_iret (show decode (zb m_PL_floor) 75 = .ok (.ireturn, 1) from by decide +kernel) rfl rfl
theorem e_PL_sweetest {d : Nat} {σ : HP} {a0 : Nat} {x1 : Int32} {x2 : Int32} : callF (d + 1) m_PL_sweetest [.ref a0, .int x1, .int x2] σ = runF (callF d) d m_PL_sweetest (0, [some (.ref a0), some (.int x1), some (.int x2)], [], σ) := callF_in rfl rfl
theorem b_PL_sweetest_0 {C : CF} {d : Nat} {σ : HP} {a0 : Nat} {x1 : Int32} {l2 : Option Value} (h1 : a0 % 64 = 11) : runF C d m_PL_sweetest (0, [some (.ref a0), some (.int x1), l2], [], σ) = bk C d m_PL_sweetest 2 [some (.ref a0), some (.int x1), l2] [] (C m_PL_needMan [.ref a0, .int x1] σ) := by
  refine (r_aloadn 0 (show decode (zb m_PL_sweetest) 0 = .ok (.aload_n 0, 1) from by decide +kernel) rfl).trans ?_
  refine (r_iloadn 1 (show decode (zb m_PL_sweetest) 1 = .ok (.iload_n 1, 1) from by decide +kernel) rfl).trans ?_
  exact r_virt (args := [.int x1]) (rest := []) (show decode (zb m_PL_sweetest) 2 = .ok (.invokevirtual 215, 3) from by decide +kernel) rfl rfl rfl h1
theorem b_PL_sweetest_5 {C : CF} {d : Nat} {σ : HP} {a0 : Nat} {x2 : Int32} {l1 : Option Value}  : runF C d m_PL_sweetest (5, [some (.ref a0), l1, some (.int x2)], [], σ) = bkN C d m_PL_sweetest 9 [some (.ref a0), l1, some (.int x2)] [.ref a0] (C m_PL_isWithin [.int x2, .int ((0 : Int32)), .int ((1 : Int32))] σ) := by
  refine (r_aloadn 0 (show decode (zb m_PL_sweetest) 5 = .ok (.aload_n 0, 1) from by decide +kernel) rfl).trans ?_
  refine (r_iloadn 2 (show decode (zb m_PL_sweetest) 6 = .ok (.iload_n 2, 1) from by decide +kernel) rfl).trans ?_
  refine (r_iconst (v := (0 : Int32)) (show decode (zb m_PL_sweetest) 7 = .ok (.iconst (0), 1) from by decide +kernel) (by decide)).trans ?_
  refine (r_iconst (v := (1 : Int32)) (show decode (zb m_PL_sweetest) 8 = .ok (.iconst (1), 1) from by decide +kernel) (by decide)).trans ?_
  exact r_stat (args := [.int x2, .int ((0 : Int32)), .int ((1 : Int32))]) (rest := [.ref a0]) (show decode (zb m_PL_sweetest) 9 = .ok (.invokestatic 177, 3) from by decide +kernel) rfl (by decide) rfl rfl
theorem b_PL_sweetest_12 {C : CF} {d : Nat} {σ : HP} {s0 : Int32} {r1 : Nat} {l0 : Option Value} {l1 : Option Value} {l2 : Option Value} (h1 : r1 % 64 = 11) : runF C d m_PL_sweetest (12, [l0, l1, l2], [.int s0, .ref r1], σ) = bk C d m_PL_sweetest 12 [l0, l1, l2] [] (C m_PL_needArgument [.ref r1, .int s0] σ) := by
  exact r_virt (args := [.int s0]) (rest := []) (show decode (zb m_PL_sweetest) 12 = .ok (.invokevirtual 181, 3) from by decide +kernel) rfl rfl rfl h1
theorem b_PL_sweetest_15 {C : CF} {d : Nat} {σ : HP} {a0 : Nat} {x1 : Int32} {l2 : Option Value} (h1 : a0 % 64 = 11) (h2 : (gR σ a0 1).isSome = true) (h3 : (dr (gR σ a0 1)) % 64 = 5) : runF C d m_PL_sweetest (15, [some (.ref a0), some (.int x1), l2], [], σ) = bk C d m_PL_sweetest 23 [some (.ref a0), some (.int x1), l2] [.int x1, .ref a0] (C m_Lift_mostSwelling [.ref (dr (gR σ a0 1)), .int x1, .int ((0 : Int32))] σ) := by
  refine (r_aloadn 0 (show decode (zb m_PL_sweetest) 15 = .ok (.aload_n 0, 1) from by decide +kernel) rfl).trans ?_
  refine (r_iloadn 1 (show decode (zb m_PL_sweetest) 16 = .ok (.iload_n 1, 1) from by decide +kernel) rfl).trans ?_
  refine (r_aloadn 0 (show decode (zb m_PL_sweetest) 17 = .ok (.aload_n 0, 1) from by decide +kernel) rfl).trans ?_
  refine (r_getR (show decode (zb m_PL_sweetest) 18 = .ok (.getfield 19, 3) from by decide +kernel) rfl rfl h1 h2).trans ?_
  refine (r_iloadn 1 (show decode (zb m_PL_sweetest) 21 = .ok (.iload_n 1, 1) from by decide +kernel) rfl).trans ?_
  refine (r_iconst (v := (0 : Int32)) (show decode (zb m_PL_sweetest) 22 = .ok (.iconst (0), 1) from by decide +kernel) (by decide)).trans ?_
  exact r_virt (args := [.int x1, .int ((0 : Int32))]) (rest := [.int x1, .ref a0]) (show decode (zb m_PL_sweetest) 23 = .ok (.invokevirtual 358, 3) from by decide +kernel) rfl rfl rfl h3
theorem b_PL_sweetest_26 {C : CF} {d : Nat} {σ : HP} {s0 : Int32} {s1 : Int32} {r2 : Nat} {x2 : Int32} {l0 : Option Value} {l1 : Option Value} (h1 : r2 % 64 = 11) : runF C d m_PL_sweetest (26, [l0, l1, some (.int x2)], [.int s0, .int s1, .ref r2], σ) = bk C d m_PL_sweetest 27 [l0, l1, some (.int x2)] [] (C m_PL_cardOrSwell [.ref r2, .int s1, .int s0, .int x2] σ) := by
  refine (r_iloadn 2 (show decode (zb m_PL_sweetest) 26 = .ok (.iload_n 2, 1) from by decide +kernel) rfl).trans ?_
  exact r_virt (args := [.int s1, .int s0, .int x2]) (rest := []) (show decode (zb m_PL_sweetest) 27 = .ok (.invokevirtual 361, 3) from by decide +kernel) rfl rfl rfl h1
theorem b_PL_sweetest_30 {C : CF} {d : Nat} {σ : HP} {s0 : Int32} {l0 : Option Value} {l1 : Option Value} {l2 : Option Value}  : runF C d m_PL_sweetest (30, [l0, l1, l2], [.int s0], σ) = some (.inl (some (.int s0)), σ) := by
  exact r_iret (show decode (zb m_PL_sweetest) 30 = .ok (.ireturn, 1) from by decide +kernel) rfl rfl
theorem e_PL_cardOrSwell {d : Nat} {σ : HP} {a0 : Nat} {x1 : Int32} {x2 : Int32} {x3 : Int32} : callF (d + 1) m_PL_cardOrSwell [.ref a0, .int x1, .int x2, .int x3] σ = runF (callF d) d m_PL_cardOrSwell (0, [some (.ref a0), some (.int x1), some (.int x2), some (.int x3)], [], σ) := callF_in rfl rfl
theorem b_PL_cardOrSwell_0 {C : CF} {d : Nat} {σ : HP} {x3 : Int32} {l0 : Option Value} {l1 : Option Value} {l2 : Option Value}  : runF C d m_PL_cardOrSwell (0, [l0, l1, l2, some (.int x3)], [], σ) = if x3 = 0 then runF C d m_PL_cardOrSwell (9, [l0, l1, l2, some (.int x3)], [], σ) else runF C d m_PL_cardOrSwell (4, [l0, l1, l2, some (.int x3)], [], σ) := by
  refine (r_iloadn 3 (show decode (zb m_PL_cardOrSwell) 0 = .ok (.iload_n 3, 1) from by decide +kernel) rfl).trans ?_
  exact r_if_eq 9 (show decode (zb m_PL_cardOrSwell) 1 = .ok (.ifCond .eq (8), 3) from by decide +kernel) rfl
theorem b_PL_cardOrSwell_4 {C : CF} {d : Nat} {σ : HP} {x2 : Int32} {l0 : Option Value} {l1 : Option Value} {l3 : Option Value}  : runF C d m_PL_cardOrSwell (4, [l0, l1, some (.int x2), l3], [], σ) = if ¬ x2 = (-1 : Int32) then runF C d m_PL_cardOrSwell (13, [l0, l1, some (.int x2), l3], [], σ) else runF C d m_PL_cardOrSwell (9, [l0, l1, some (.int x2), l3], [], σ) := by
  refine (r_iloadn 2 (show decode (zb m_PL_cardOrSwell) 4 = .ok (.iload_n 2, 1) from by decide +kernel) rfl).trans ?_
  refine (r_iconst (v := (-1 : Int32)) (show decode (zb m_PL_cardOrSwell) 5 = .ok (.iconst (-1), 1) from by decide +kernel) (by decide)).trans ?_
  exact r_icmp_ne 13 (show decode (zb m_PL_cardOrSwell) 6 = .ok (.if_icmp .ne (7), 3) from by decide +kernel) rfl
theorem b_PL_cardOrSwell_9 {C : CF} {d : Nat} {σ : HP} {x2 : Int32} {l0 : Option Value} {l1 : Option Value} {l3 : Option Value}  : runF C d m_PL_cardOrSwell (9, [l0, l1, some (.int x2), l3], [], σ) = runF C d m_PL_cardOrSwell (22, [l0, l1, some (.int x2), l3], [.int x2], σ) := by
  refine (r_iloadn 2 (show decode (zb m_PL_cardOrSwell) 9 = .ok (.iload_n 2, 1) from by decide +kernel) rfl).trans ?_
  exact r_goto 22 (show decode (zb m_PL_cardOrSwell) 10 = .ok (.goto (12), 3) from by decide +kernel) rfl
theorem b_PL_cardOrSwell_13 {C : CF} {d : Nat} {σ : HP} {a0 : Nat} {x1 : Int32} {x2 : Int32} {l3 : Option Value} (h1 : a0 % 64 = 11) (h2 : (gR σ a0 1).isSome = true) (h3 : (dr (gR σ a0 1)) % 64 = 5) : runF C d m_PL_cardOrSwell (13, [some (.ref a0), some (.int x1), some (.int x2), l3], [], σ) = bk C d m_PL_cardOrSwell 19 [some (.ref a0), some (.int x1), some (.int x2), l3] [] (C m_Lift_swellOf [.ref (dr (gR σ a0 1)), .int x1, .int x2] σ) := by
  refine (r_aloadn 0 (show decode (zb m_PL_cardOrSwell) 13 = .ok (.aload_n 0, 1) from by decide +kernel) rfl).trans ?_
  refine (r_getR (show decode (zb m_PL_cardOrSwell) 14 = .ok (.getfield 19, 3) from by decide +kernel) rfl rfl h1 h2).trans ?_
  refine (r_iloadn 1 (show decode (zb m_PL_cardOrSwell) 17 = .ok (.iload_n 1, 1) from by decide +kernel) rfl).trans ?_
  refine (r_iloadn 2 (show decode (zb m_PL_cardOrSwell) 18 = .ok (.iload_n 2, 1) from by decide +kernel) rfl).trans ?_
  exact r_virt (args := [.int x1, .int x2]) (rest := []) (show decode (zb m_PL_cardOrSwell) 19 = .ok (.invokevirtual 264, 3) from by decide +kernel) rfl rfl rfl h3
theorem b_PL_cardOrSwell_22 {C : CF} {d : Nat} {σ : HP} {s0 : Int32} {l0 : Option Value} {l1 : Option Value} {l2 : Option Value} {l3 : Option Value}  : runF C d m_PL_cardOrSwell (22, [l0, l1, l2, l3], [.int s0], σ) = some (.inl (some (.int s0)), σ) := by
  exact r_iret (show decode (zb m_PL_cardOrSwell) 22 = .ok (.ireturn, 1) from by decide +kernel) rfl rfl
theorem e_PL_truest {d : Nat} {σ : HP} {a0 : Nat} {x1 : Int32} {x2 : Int32} : callF (d + 1) m_PL_truest [.ref a0, .int x1, .int x2] σ = runF (callF d) d m_PL_truest (0, [some (.ref a0), some (.int x1), some (.int x2)], [], σ) := callF_in rfl rfl
theorem b_PL_truest_0 {C : CF} {d : Nat} {σ : HP} {a0 : Nat} {x1 : Int32} {l2 : Option Value} (h1 : a0 % 64 = 11) : runF C d m_PL_truest (0, [some (.ref a0), some (.int x1), l2], [], σ) = bk C d m_PL_truest 2 [some (.ref a0), some (.int x1), l2] [] (C m_PL_needMan [.ref a0, .int x1] σ) := by
  refine (r_aloadn 0 (show decode (zb m_PL_truest) 0 = .ok (.aload_n 0, 1) from by decide +kernel) rfl).trans ?_
  refine (r_iloadn 1 (show decode (zb m_PL_truest) 1 = .ok (.iload_n 1, 1) from by decide +kernel) rfl).trans ?_
  exact r_virt (args := [.int x1]) (rest := []) (show decode (zb m_PL_truest) 2 = .ok (.invokevirtual 215, 3) from by decide +kernel) rfl rfl rfl h1
theorem b_PL_truest_5 {C : CF} {d : Nat} {σ : HP} {a0 : Nat} {x2 : Int32} {l1 : Option Value}  : runF C d m_PL_truest (5, [some (.ref a0), l1, some (.int x2)], [], σ) = bkN C d m_PL_truest 9 [some (.ref a0), l1, some (.int x2)] [.ref a0] (C m_PL_isWithin [.int x2, .int ((0 : Int32)), .int ((1 : Int32))] σ) := by
  refine (r_aloadn 0 (show decode (zb m_PL_truest) 5 = .ok (.aload_n 0, 1) from by decide +kernel) rfl).trans ?_
  refine (r_iloadn 2 (show decode (zb m_PL_truest) 6 = .ok (.iload_n 2, 1) from by decide +kernel) rfl).trans ?_
  refine (r_iconst (v := (0 : Int32)) (show decode (zb m_PL_truest) 7 = .ok (.iconst (0), 1) from by decide +kernel) (by decide)).trans ?_
  refine (r_iconst (v := (1 : Int32)) (show decode (zb m_PL_truest) 8 = .ok (.iconst (1), 1) from by decide +kernel) (by decide)).trans ?_
  exact r_stat (args := [.int x2, .int ((0 : Int32)), .int ((1 : Int32))]) (rest := [.ref a0]) (show decode (zb m_PL_truest) 9 = .ok (.invokestatic 177, 3) from by decide +kernel) rfl (by decide) rfl rfl
theorem b_PL_truest_12 {C : CF} {d : Nat} {σ : HP} {s0 : Int32} {r1 : Nat} {l0 : Option Value} {l1 : Option Value} {l2 : Option Value} (h1 : r1 % 64 = 11) : runF C d m_PL_truest (12, [l0, l1, l2], [.int s0, .ref r1], σ) = bk C d m_PL_truest 12 [l0, l1, l2] [] (C m_PL_needArgument [.ref r1, .int s0] σ) := by
  exact r_virt (args := [.int s0]) (rest := []) (show decode (zb m_PL_truest) 12 = .ok (.invokevirtual 181, 3) from by decide +kernel) rfl rfl rfl h1
theorem b_PL_truest_15 {C : CF} {d : Nat} {σ : HP} {a0 : Nat} {x1 : Int32} {l2 : Option Value} (h1 : a0 % 64 = 11) (h2 : (gR σ a0 1).isSome = true) (h3 : (dr (gR σ a0 1)) % 64 = 5) : runF C d m_PL_truest (15, [some (.ref a0), some (.int x1), l2], [], σ) = bk C d m_PL_truest 27 [some (.ref a0), some (.int x1), l2] [.int x1, .ref (dr (gR σ a0 1)), .int x1, .ref a0] (C m_Lift_liesTo [.ref (dr (gR σ a0 1)), .int x1] σ) := by
  refine (r_aloadn 0 (show decode (zb m_PL_truest) 15 = .ok (.aload_n 0, 1) from by decide +kernel) rfl).trans ?_
  refine (r_iloadn 1 (show decode (zb m_PL_truest) 16 = .ok (.iload_n 1, 1) from by decide +kernel) rfl).trans ?_
  refine (r_aloadn 0 (show decode (zb m_PL_truest) 17 = .ok (.aload_n 0, 1) from by decide +kernel) rfl).trans ?_
  refine (r_getR (show decode (zb m_PL_truest) 18 = .ok (.getfield 19, 3) from by decide +kernel) rfl rfl h1 h2).trans ?_
  refine (r_iloadn 1 (show decode (zb m_PL_truest) 21 = .ok (.iload_n 1, 1) from by decide +kernel) rfl).trans ?_
  refine (r_aloadn 0 (show decode (zb m_PL_truest) 22 = .ok (.aload_n 0, 1) from by decide +kernel) rfl).trans ?_
  refine (r_getR (show decode (zb m_PL_truest) 23 = .ok (.getfield 19, 3) from by decide +kernel) rfl rfl h1 h2).trans ?_
  refine (r_iloadn 1 (show decode (zb m_PL_truest) 26 = .ok (.iload_n 1, 1) from by decide +kernel) rfl).trans ?_
  exact r_virt (args := [.int x1]) (rest := [.int x1, .ref (dr (gR σ a0 1)), .int x1, .ref a0]) (show decode (zb m_PL_truest) 27 = .ok (.invokevirtual 245, 3) from by decide +kernel) rfl rfl rfl h3
theorem b_PL_truest_30 {C : CF} {d : Nat} {σ : HP} {s0 : Int32} {s1 : Int32} {r2 : Nat} {s3 : Int32} {r4 : Nat} {l0 : Option Value} {l1 : Option Value} {l2 : Option Value} (h1 : r2 % 64 = 5) : runF C d m_PL_truest (30, [l0, l1, l2], [.int s0, .int s1, .ref r2, .int s3, .ref r4], σ) = bk C d m_PL_truest 30 [l0, l1, l2] [.int s3, .ref r4] (C m_Lift_mostSwelling [.ref r2, .int s1, .int s0] σ) := by
  exact r_virt (args := [.int s1, .int s0]) (rest := [.int s3, .ref r4]) (show decode (zb m_PL_truest) 30 = .ok (.invokevirtual 358, 3) from by decide +kernel) rfl rfl rfl h1
theorem b_PL_truest_33 {C : CF} {d : Nat} {σ : HP} {s0 : Int32} {s1 : Int32} {r2 : Nat} {x2 : Int32} {l0 : Option Value} {l1 : Option Value} (h1 : r2 % 64 = 11) : runF C d m_PL_truest (33, [l0, l1, some (.int x2)], [.int s0, .int s1, .ref r2], σ) = bk C d m_PL_truest 34 [l0, l1, some (.int x2)] [] (C m_PL_cardOrSwell [.ref r2, .int s1, .int s0, .int x2] σ) := by
  refine (r_iloadn 2 (show decode (zb m_PL_truest) 33 = .ok (.iload_n 2, 1) from by decide +kernel) rfl).trans ?_
  exact r_virt (args := [.int s1, .int s0, .int x2]) (rest := []) (show decode (zb m_PL_truest) 34 = .ok (.invokevirtual 361, 3) from by decide +kernel) rfl rfl rfl h1
theorem b_PL_truest_37 {C : CF} {d : Nat} {σ : HP} {s0 : Int32} {l0 : Option Value} {l1 : Option Value} {l2 : Option Value}  : runF C d m_PL_truest (37, [l0, l1, l2], [.int s0], σ) = some (.inl (some (.int s0)), σ) := by
  exact r_iret (show decode (zb m_PL_truest) 37 = .ok (.ireturn, 1) from by decide +kernel) rfl rfl
theorem e_PL_proud {d : Nat} {σ : HP} {a0 : Nat} {x1 : Int32} : callF (d + 1) m_PL_proud [.ref a0, .int x1] σ = runF (callF d) d m_PL_proud (0, [some (.ref a0), some (.int x1), none, none, none], [], σ) := callF_in rfl rfl
theorem b_PL_proud_0 {C : CF} {d : Nat} {σ : HP} {a0 : Nat} {x1 : Int32} {l2 : Option Value} {l3 : Option Value} {l4 : Option Value}  : runF C d m_PL_proud (0, [some (.ref a0), some (.int x1), l2, l3, l4], [], σ) = bkN C d m_PL_proud 4 [some (.ref a0), some (.int x1), l2, l3, l4] [.ref a0] (C m_PL_isWithin [.int x1, .int ((0 : Int32)), .int ((1 : Int32))] σ) := by
  refine (r_aloadn 0 (show decode (zb m_PL_proud) 0 = .ok (.aload_n 0, 1) from by decide +kernel) rfl).trans ?_
  refine (r_iloadn 1 (show decode (zb m_PL_proud) 1 = .ok (.iload_n 1, 1) from by decide +kernel) rfl).trans ?_
  refine (r_iconst (v := (0 : Int32)) (show decode (zb m_PL_proud) 2 = .ok (.iconst (0), 1) from by decide +kernel) (by decide)).trans ?_
  refine (r_iconst (v := (1 : Int32)) (show decode (zb m_PL_proud) 3 = .ok (.iconst (1), 1) from by decide +kernel) (by decide)).trans ?_
  exact r_stat (args := [.int x1, .int ((0 : Int32)), .int ((1 : Int32))]) (rest := [.ref a0]) (show decode (zb m_PL_proud) 4 = .ok (.invokestatic 177, 3) from by decide +kernel) rfl (by decide) rfl rfl
theorem b_PL_proud_7 {C : CF} {d : Nat} {σ : HP} {s0 : Int32} {r1 : Nat} {l0 : Option Value} {l1 : Option Value} {l2 : Option Value} {l3 : Option Value} {l4 : Option Value} (h1 : r1 % 64 = 11) : runF C d m_PL_proud (7, [l0, l1, l2, l3, l4], [.int s0, .ref r1], σ) = bk C d m_PL_proud 7 [l0, l1, l2, l3, l4] [] (C m_PL_needArgument [.ref r1, .int s0] σ) := by
  exact r_virt (args := [.int s0]) (rest := []) (show decode (zb m_PL_proud) 7 = .ok (.invokevirtual 181, 3) from by decide +kernel) rfl rfl rfl h1
theorem b_PL_proud_10 {C : CF} {d : Nat} {σ : HP} {l0 : Option Value} {l1 : Option Value} {l2 : Option Value} {l3 : Option Value} {l4 : Option Value}  : runF C d m_PL_proud (10, [l0, l1, l2, l3, l4], [], σ) = runF C d m_PL_proud (14, [l0, l1, some (.int ((0 : Int32))), some (.int ((0 : Int32))), l4], [], σ) := by
  refine (r_iconst (v := (0 : Int32)) (show decode (zb m_PL_proud) 10 = .ok (.iconst (0), 1) from by decide +kernel) (by decide)).trans ?_
  refine (r_istoren 2 (show decode (zb m_PL_proud) 11 = .ok (.istore_n 2, 1) from by decide +kernel) rfl).trans ?_
  refine (r_iconst (v := (0 : Int32)) (show decode (zb m_PL_proud) 12 = .ok (.iconst (0), 1) from by decide +kernel) (by decide)).trans ?_
  exact r_istoren 3 (show decode (zb m_PL_proud) 13 = .ok (.istore_n 3, 1) from by decide +kernel) rfl
theorem b_PL_proud_14 {C : CF} {d : Nat} {σ : HP} {x3 : Int32} {a0 : Nat} {l1 : Option Value} {l2 : Option Value} {l4 : Option Value} (h1 : a0 % 64 = 11) (h2 : (gR σ a0 1).isSome = true) (h3 : (dr (gR σ a0 1)) % 64 = 5) (h4 : (gR σ (dr (gR σ a0 1)) 0).isSome = true) (h5 : (dr (gR σ (dr (gR σ a0 1)) 0)) % 64 = 2) : runF C d m_PL_proud (14, [some (.ref a0), l1, l2, some (.int x3), l4], [], σ) = if (gI σ (dr (gR σ (dr (gR σ a0 1)) 0)) 1) ≤ x3 then runF C d m_PL_proud (83, [some (.ref a0), l1, l2, some (.int x3), l4], [], σ) else runF C d m_PL_proud (28, [some (.ref a0), l1, l2, some (.int x3), l4], [], σ) := by
  refine (r_iloadn 3 (show decode (zb m_PL_proud) 14 = .ok (.iload_n 3, 1) from by decide +kernel) rfl).trans ?_
  refine (r_aloadn 0 (show decode (zb m_PL_proud) 15 = .ok (.aload_n 0, 1) from by decide +kernel) rfl).trans ?_
  refine (r_getR (show decode (zb m_PL_proud) 16 = .ok (.getfield 19, 3) from by decide +kernel) rfl rfl h1 h2).trans ?_
  refine (r_getR (show decode (zb m_PL_proud) 19 = .ok (.getfield 138, 3) from by decide +kernel) rfl rfl h3 h4).trans ?_
  refine (r_getI (show decode (zb m_PL_proud) 22 = .ok (.getfield 116, 3) from by decide +kernel) rfl rfl h5).trans ?_
  exact r_icmp_ge 83 (show decode (zb m_PL_proud) 25 = .ok (.if_icmp .ge (58), 3) from by decide +kernel) rfl
theorem b_PL_proud_28 {C : CF} {d : Nat} {σ : HP} {x1 : Int32} {l0 : Option Value} {l2 : Option Value} {l3 : Option Value} {l4 : Option Value}  : runF C d m_PL_proud (28, [l0, some (.int x1), l2, l3, l4], [], σ) = if ¬ x1 = 0 then runF C d m_PL_proud (36, [l0, some (.int x1), l2, l3, l4], [], σ) else runF C d m_PL_proud (32, [l0, some (.int x1), l2, l3, l4], [], σ) := by
  refine (r_iloadn 1 (show decode (zb m_PL_proud) 28 = .ok (.iload_n 1, 1) from by decide +kernel) rfl).trans ?_
  exact r_if_ne 36 (show decode (zb m_PL_proud) 29 = .ok (.ifCond .ne (7), 3) from by decide +kernel) rfl
theorem b_PL_proud_32 {C : CF} {d : Nat} {σ : HP} {l0 : Option Value} {l1 : Option Value} {l2 : Option Value} {l3 : Option Value} {l4 : Option Value}  : runF C d m_PL_proud (32, [l0, l1, l2, l3, l4], [], σ) = runF C d m_PL_proud (50, [l0, l1, l2, l3, l4], [.int ((0 : Int32))], σ) := by
  refine (r_iconst (v := (0 : Int32)) (show decode (zb m_PL_proud) 32 = .ok (.iconst (0), 1) from by decide +kernel) (by decide)).trans ?_
  exact r_goto 50 (show decode (zb m_PL_proud) 33 = .ok (.goto (17), 3) from by decide +kernel) rfl
theorem b_PL_proud_36 {C : CF} {d : Nat} {σ : HP} {a0 : Nat} {x3 : Int32} {l1 : Option Value} {l2 : Option Value} {l4 : Option Value} (h1 : a0 % 64 = 11) (h2 : (gR σ a0 1).isSome = true) (h3 : (dr (gR σ a0 1)) % 64 = 5) (h4 : (gR σ (dr (gR σ a0 1)) 0).isSome = true) (h5 : (dr (gR σ (dr (gR σ a0 1)) 0)) % 64 = 2) (h6 : (gR σ (dr (gR σ (dr (gR σ a0 1)) 0)) 5).isSome = true) : runF C d m_PL_proud (36, [some (.ref a0), l1, l2, some (.int x3), l4], [], σ) = bkN C d m_PL_proud 47 [some (.ref a0), l1, l2, some (.int x3), l4] [] (C m_PL_at [.ref (dr (gR σ (dr (gR σ (dr (gR σ a0 1)) 0)) 5)), .int x3] σ) := by
  refine (r_aloadn 0 (show decode (zb m_PL_proud) 36 = .ok (.aload_n 0, 1) from by decide +kernel) rfl).trans ?_
  refine (r_getR (show decode (zb m_PL_proud) 37 = .ok (.getfield 19, 3) from by decide +kernel) rfl rfl h1 h2).trans ?_
  refine (r_getR (show decode (zb m_PL_proud) 40 = .ok (.getfield 138, 3) from by decide +kernel) rfl rfl h3 h4).trans ?_
  refine (r_getR (show decode (zb m_PL_proud) 43 = .ok (.getfield 221, 3) from by decide +kernel) rfl rfl h5 h6).trans ?_
  refine (r_iloadn 3 (show decode (zb m_PL_proud) 46 = .ok (.iload_n 3, 1) from by decide +kernel) rfl).trans ?_
  exact r_stat (args := [.ref (dr (gR σ (dr (gR σ (dr (gR σ a0 1)) 0)) 5)), .int x3]) (rest := []) (show decode (zb m_PL_proud) 47 = .ok (.invokestatic 225, 3) from by decide +kernel) rfl (by decide) rfl rfl
theorem b_PL_proud_50 {C : CF} {d : Nat} {σ : HP} {s0 : Int32} {a0 : Nat} {x3 : Int32} {l1 : Option Value} {l2 : Option Value} {l4 : Option Value} (h1 : a0 % 64 = 11) (h2 : (gR σ a0 1).isSome = true) (h3 : (dr (gR σ a0 1)) % 64 = 5) (h4 : (gR σ (dr (gR σ a0 1)) 2).isSome = true) (h5 : (dr (gR σ (dr (gR σ a0 1)) 2)) % 64 = 1) (h6 : (gR σ (dr (gR σ (dr (gR σ a0 1)) 2)) 5).isSome = true) : runF C d m_PL_proud (50, [some (.ref a0), l1, l2, some (.int x3), l4], [.int s0], σ) = bkN C d m_PL_proud 63 [some (.ref a0), l1, l2, some (.int x3), some (.int s0)] [] (C m_PL_at [.ref (dr (gR σ (dr (gR σ (dr (gR σ a0 1)) 2)) 5)), .int x3] σ) := by
  refine (r_istore 4 (show decode (zb m_PL_proud) 50 = .ok (.istore 4, 2) from by decide +kernel) rfl).trans ?_
  refine (r_aloadn 0 (show decode (zb m_PL_proud) 52 = .ok (.aload_n 0, 1) from by decide +kernel) rfl).trans ?_
  refine (r_getR (show decode (zb m_PL_proud) 53 = .ok (.getfield 19, 3) from by decide +kernel) rfl rfl h1 h2).trans ?_
  refine (r_getR (show decode (zb m_PL_proud) 56 = .ok (.getfield 146, 3) from by decide +kernel) rfl rfl h3 h4).trans ?_
  refine (r_getR (show decode (zb m_PL_proud) 59 = .ok (.getfield 232, 3) from by decide +kernel) rfl rfl h5 h6).trans ?_
  refine (r_iloadn 3 (show decode (zb m_PL_proud) 62 = .ok (.iload_n 3, 1) from by decide +kernel) rfl).trans ?_
  exact r_stat (args := [.ref (dr (gR σ (dr (gR σ (dr (gR σ a0 1)) 2)) 5)), .int x3]) (rest := []) (show decode (zb m_PL_proud) 63 = .ok (.invokestatic 225, 3) from by decide +kernel) rfl (by decide) rfl rfl
theorem b_PL_proud_66 {C : CF} {d : Nat} {σ : HP} {s0 : Int32} {x4 : Int32} {l0 : Option Value} {l1 : Option Value} {l2 : Option Value} {l3 : Option Value}  : runF C d m_PL_proud (66, [l0, l1, l2, l3, some (.int x4)], [.int s0], σ) = if s0 ≤ x4 then runF C d m_PL_proud (77, [l0, l1, l2, l3, some (.int x4)], [], σ) else runF C d m_PL_proud (71, [l0, l1, l2, l3, some (.int x4)], [], σ) := by
  refine (r_iload 4 (show decode (zb m_PL_proud) 66 = .ok (.iload 4, 2) from by decide +kernel) rfl).trans ?_
  exact r_icmp_le 77 (show decode (zb m_PL_proud) 68 = .ok (.if_icmp .le (9), 3) from by decide +kernel) rfl
theorem b_PL_proud_71 {C : CF} {d : Nat} {σ : HP} {x2 : Int32} {x3 : Int32} {l0 : Option Value} {l1 : Option Value} {l4 : Option Value}  : runF C d m_PL_proud (71, [l0, l1, some (.int x2), some (.int x3), l4], [], σ) = runF C d m_PL_proud (77, [l0, l1, some (.int (x2 ||| (p_shl (1 : Int32) x3))), some (.int x3), l4], [], σ) := by
  refine (r_iloadn 2 (show decode (zb m_PL_proud) 71 = .ok (.iload_n 2, 1) from by decide +kernel) rfl).trans ?_
  refine (r_iconst (v := (1 : Int32)) (show decode (zb m_PL_proud) 72 = .ok (.iconst (1), 1) from by decide +kernel) (by decide)).trans ?_
  refine (r_iloadn 3 (show decode (zb m_PL_proud) 73 = .ok (.iload_n 3, 1) from by decide +kernel) rfl).trans ?_
  refine (r_ishl (show decode (zb m_PL_proud) 74 = .ok (.ishl, 1) from by decide +kernel)).trans ?_
  refine (r_ior (show decode (zb m_PL_proud) 75 = .ok (.ior, 1) from by decide +kernel)).trans ?_
  exact r_istoren 2 (show decode (zb m_PL_proud) 76 = .ok (.istore_n 2, 1) from by decide +kernel) rfl
theorem b_PL_proud_77 {C : CF} {d : Nat} {σ : HP} {x3 : Int32} {l0 : Option Value} {l1 : Option Value} {l2 : Option Value} {l4 : Option Value}  : runF C d m_PL_proud (77, [l0, l1, l2, some (.int x3), l4], [], σ) = runF C d m_PL_proud (14, [l0, l1, l2, some (.int (x3 + (1 : Int32))), l4], [], σ) := by
  refine (r_iinc 3 (v := (1 : Int32)) (show decode (zb m_PL_proud) 77 = .ok (.iinc 3 (1), 3) from by decide +kernel) rfl rfl (by decide)).trans ?_
  exact r_goto 14 (show decode (zb m_PL_proud) 80 = .ok (.goto (-66), 3) from by decide +kernel) rfl
theorem b_PL_proud_83 {C : CF} {d : Nat} {σ : HP} {x2 : Int32} {l0 : Option Value} {l1 : Option Value} {l3 : Option Value} {l4 : Option Value}  : runF C d m_PL_proud (83, [l0, l1, some (.int x2), l3, l4], [], σ) = some (.inl (some (.int x2)), σ) := by
  refine (r_iloadn 2 (show decode (zb m_PL_proud) 83 = .ok (.iload_n 2, 1) from by decide +kernel) rfl).trans ?_
  exact r_iret (show decode (zb m_PL_proud) 84 = .ok (.ireturn, 1) from by decide +kernel) rfl rfl
theorem e_PL_liked {d : Nat} {σ : HP} {a0 : Nat} {x1 : Int32} : callF (d + 1) m_PL_liked [.ref a0, .int x1] σ = runF (callF d) d m_PL_liked (0, [some (.ref a0), some (.int x1), none, none, none, none], [], σ) := callF_in rfl rfl
theorem b_PL_liked_0 {C : CF} {d : Nat} {σ : HP} {a0 : Nat} {x1 : Int32} {l2 : Option Value} {l3 : Option Value} {l4 : Option Value} {l5 : Option Value} (h1 : a0 % 64 = 11) : runF C d m_PL_liked (0, [some (.ref a0), some (.int x1), l2, l3, l4, l5], [], σ) = bk C d m_PL_liked 2 [some (.ref a0), some (.int x1), l2, l3, l4, l5] [] (C m_PL_needCard [.ref a0, .int x1] σ) := by
  refine (r_aloadn 0 (show decode (zb m_PL_liked) 0 = .ok (.aload_n 0, 1) from by decide +kernel) rfl).trans ?_
  refine (r_iloadn 1 (show decode (zb m_PL_liked) 1 = .ok (.iload_n 1, 1) from by decide +kernel) rfl).trans ?_
  exact r_virt (args := [.int x1]) (rest := []) (show decode (zb m_PL_liked) 2 = .ok (.invokevirtual 248, 3) from by decide +kernel) rfl rfl rfl h1
theorem b_PL_liked_5 {C : CF} {d : Nat} {σ : HP} {l0 : Option Value} {l1 : Option Value} {l2 : Option Value} {l3 : Option Value} {l4 : Option Value} {l5 : Option Value}  : runF C d m_PL_liked (5, [l0, l1, l2, l3, l4, l5], [], σ) = runF C d m_PL_liked (12, [l0, l1, some (.int ((-1 : Int32))), some (.int ((-1 : Int32))), some (.int ((0 : Int32))), l5], [], σ) := by
  refine (r_iconst (v := (-1 : Int32)) (show decode (zb m_PL_liked) 5 = .ok (.iconst (-1), 1) from by decide +kernel) (by decide)).trans ?_
  refine (r_istoren 2 (show decode (zb m_PL_liked) 6 = .ok (.istore_n 2, 1) from by decide +kernel) rfl).trans ?_
  refine (r_iconst (v := (-1 : Int32)) (show decode (zb m_PL_liked) 7 = .ok (.iconst (-1), 1) from by decide +kernel) (by decide)).trans ?_
  refine (r_istoren 3 (show decode (zb m_PL_liked) 8 = .ok (.istore_n 3, 1) from by decide +kernel) rfl).trans ?_
  refine (r_iconst (v := (0 : Int32)) (show decode (zb m_PL_liked) 9 = .ok (.iconst (0), 1) from by decide +kernel) (by decide)).trans ?_
  exact r_istore 4 (show decode (zb m_PL_liked) 10 = .ok (.istore 4, 2) from by decide +kernel) rfl
theorem b_PL_liked_12 {C : CF} {d : Nat} {σ : HP} {x4 : Int32} {a0 : Nat} {l1 : Option Value} {l2 : Option Value} {l3 : Option Value} {l5 : Option Value} (h1 : a0 % 64 = 11) (h2 : (gR σ a0 1).isSome = true) (h3 : (dr (gR σ a0 1)) % 64 = 5) (h4 : (gR σ (dr (gR σ a0 1)) 0).isSome = true) (h5 : (dr (gR σ (dr (gR σ a0 1)) 0)) % 64 = 2) : runF C d m_PL_liked (12, [some (.ref a0), l1, l2, l3, some (.int x4), l5], [], σ) = if (gI σ (dr (gR σ (dr (gR σ a0 1)) 0)) 1) ≤ x4 then runF C d m_PL_liked (57, [some (.ref a0), l1, l2, l3, some (.int x4), l5], [], σ) else runF C d m_PL_liked (27, [some (.ref a0), l1, l2, l3, some (.int x4), l5], [], σ) := by
  refine (r_iload 4 (show decode (zb m_PL_liked) 12 = .ok (.iload 4, 2) from by decide +kernel) rfl).trans ?_
  refine (r_aloadn 0 (show decode (zb m_PL_liked) 14 = .ok (.aload_n 0, 1) from by decide +kernel) rfl).trans ?_
  refine (r_getR (show decode (zb m_PL_liked) 15 = .ok (.getfield 19, 3) from by decide +kernel) rfl rfl h1 h2).trans ?_
  refine (r_getR (show decode (zb m_PL_liked) 18 = .ok (.getfield 138, 3) from by decide +kernel) rfl rfl h3 h4).trans ?_
  refine (r_getI (show decode (zb m_PL_liked) 21 = .ok (.getfield 116, 3) from by decide +kernel) rfl rfl h5).trans ?_
  exact r_icmp_ge 57 (show decode (zb m_PL_liked) 24 = .ok (.if_icmp .ge (33), 3) from by decide +kernel) rfl
theorem b_PL_liked_27 {C : CF} {d : Nat} {σ : HP} {a0 : Nat} {x4 : Int32} {x1 : Int32} {l2 : Option Value} {l3 : Option Value} {l5 : Option Value} (h1 : a0 % 64 = 11) (h2 : (gR σ a0 1).isSome = true) (h3 : (dr (gR σ a0 1)) % 64 = 5) : runF C d m_PL_liked (27, [some (.ref a0), some (.int x1), l2, l3, some (.int x4), l5], [], σ) = bk C d m_PL_liked 34 [some (.ref a0), some (.int x1), l2, l3, some (.int x4), l5] [] (C m_Lift_swellOf [.ref (dr (gR σ a0 1)), .int x4, .int x1] σ) := by
  refine (r_aloadn 0 (show decode (zb m_PL_liked) 27 = .ok (.aload_n 0, 1) from by decide +kernel) rfl).trans ?_
  refine (r_getR (show decode (zb m_PL_liked) 28 = .ok (.getfield 19, 3) from by decide +kernel) rfl rfl h1 h2).trans ?_
  refine (r_iload 4 (show decode (zb m_PL_liked) 31 = .ok (.iload 4, 2) from by decide +kernel) rfl).trans ?_
  refine (r_iloadn 1 (show decode (zb m_PL_liked) 33 = .ok (.iload_n 1, 1) from by decide +kernel) rfl).trans ?_
  exact r_virt (args := [.int x4, .int x1]) (rest := []) (show decode (zb m_PL_liked) 34 = .ok (.invokevirtual 264, 3) from by decide +kernel) rfl rfl rfl h3
theorem b_PL_liked_37 {C : CF} {d : Nat} {σ : HP} {s0 : Int32} {x3 : Int32} {l0 : Option Value} {l1 : Option Value} {l2 : Option Value} {l4 : Option Value} {l5 : Option Value}  : runF C d m_PL_liked (37, [l0, l1, l2, some (.int x3), l4, l5], [.int s0], σ) = if s0 ≤ x3 then runF C d m_PL_liked (51, [l0, l1, l2, some (.int x3), l4, some (.int s0)], [], σ) else runF C d m_PL_liked (45, [l0, l1, l2, some (.int x3), l4, some (.int s0)], [], σ) := by
  refine (r_istore 5 (show decode (zb m_PL_liked) 37 = .ok (.istore 5, 2) from by decide +kernel) rfl).trans ?_
  refine (r_iload 5 (show decode (zb m_PL_liked) 39 = .ok (.iload 5, 2) from by decide +kernel) rfl).trans ?_
  refine (r_iloadn 3 (show decode (zb m_PL_liked) 41 = .ok (.iload_n 3, 1) from by decide +kernel) rfl).trans ?_
  exact r_icmp_le 51 (show decode (zb m_PL_liked) 42 = .ok (.if_icmp .le (9), 3) from by decide +kernel) rfl
theorem b_PL_liked_45 {C : CF} {d : Nat} {σ : HP} {x4 : Int32} {x5 : Int32} {l0 : Option Value} {l1 : Option Value} {l2 : Option Value} {l3 : Option Value}  : runF C d m_PL_liked (45, [l0, l1, l2, l3, some (.int x4), some (.int x5)], [], σ) = runF C d m_PL_liked (51, [l0, l1, some (.int x4), some (.int x5), some (.int x4), some (.int x5)], [], σ) := by
  refine (r_iload 4 (show decode (zb m_PL_liked) 45 = .ok (.iload 4, 2) from by decide +kernel) rfl).trans ?_
  refine (r_istoren 2 (show decode (zb m_PL_liked) 47 = .ok (.istore_n 2, 1) from by decide +kernel) rfl).trans ?_
  refine (r_iload 5 (show decode (zb m_PL_liked) 48 = .ok (.iload 5, 2) from by decide +kernel) rfl).trans ?_
  exact r_istoren 3 (show decode (zb m_PL_liked) 50 = .ok (.istore_n 3, 1) from by decide +kernel) rfl
theorem b_PL_liked_51 {C : CF} {d : Nat} {σ : HP} {x4 : Int32} {l0 : Option Value} {l1 : Option Value} {l2 : Option Value} {l3 : Option Value} {l5 : Option Value}  : runF C d m_PL_liked (51, [l0, l1, l2, l3, some (.int x4), l5], [], σ) = runF C d m_PL_liked (12, [l0, l1, l2, l3, some (.int (x4 + (1 : Int32))), l5], [], σ) := by
  refine (r_iinc 4 (v := (1 : Int32)) (show decode (zb m_PL_liked) 51 = .ok (.iinc 4 (1), 3) from by decide +kernel) rfl rfl (by decide)).trans ?_
  exact r_goto 12 (show decode (zb m_PL_liked) 54 = .ok (.goto (-42), 3) from by decide +kernel) rfl
theorem b_PL_liked_57 {C : CF} {d : Nat} {σ : HP} {x2 : Int32} {l0 : Option Value} {l1 : Option Value} {l3 : Option Value} {l4 : Option Value} {l5 : Option Value}  : runF C d m_PL_liked (57, [l0, l1, some (.int x2), l3, l4, l5], [], σ) = some (.inl (some (.int x2)), σ) := by
  refine (r_iloadn 2 (show decode (zb m_PL_liked) 57 = .ok (.iload_n 2, 1) from by decide +kernel) rfl).trans ?_
  exact r_iret (show decode (zb m_PL_liked) 58 = .ok (.ireturn, 1) from by decide +kernel) rfl rfl
theorem e_PL_above {d : Nat} {σ : HP} {a0 : Nat} {x1 : Int32} : callF (d + 1) m_PL_above [.ref a0, .int x1] σ = runF (callF d) d m_PL_above (0, [some (.ref a0), some (.int x1), none, none], [], σ) := callF_in rfl rfl
theorem b_PL_above_0 {C : CF} {d : Nat} {σ : HP} {a0 : Nat} {x1 : Int32} {l2 : Option Value} {l3 : Option Value} (h1 : a0 % 64 = 11) : runF C d m_PL_above (0, [some (.ref a0), some (.int x1), l2, l3], [], σ) = bk C d m_PL_above 2 [some (.ref a0), some (.int x1), l2, l3] [] (C m_PL_needMan [.ref a0, .int x1] σ) := by
  refine (r_aloadn 0 (show decode (zb m_PL_above) 0 = .ok (.aload_n 0, 1) from by decide +kernel) rfl).trans ?_
  refine (r_iloadn 1 (show decode (zb m_PL_above) 1 = .ok (.iload_n 1, 1) from by decide +kernel) rfl).trans ?_
  exact r_virt (args := [.int x1]) (rest := []) (show decode (zb m_PL_above) 2 = .ok (.invokevirtual 215, 3) from by decide +kernel) rfl rfl rfl h1
theorem b_PL_above_5 {C : CF} {d : Nat} {σ : HP} {l0 : Option Value} {l1 : Option Value} {l2 : Option Value} {l3 : Option Value}  : runF C d m_PL_above (5, [l0, l1, l2, l3], [], σ) = runF C d m_PL_above (9, [l0, l1, some (.int ((0 : Int32))), some (.int ((0 : Int32)))], [], σ) := by
  refine (r_iconst (v := (0 : Int32)) (show decode (zb m_PL_above) 5 = .ok (.iconst (0), 1) from by decide +kernel) (by decide)).trans ?_
  refine (r_istoren 2 (show decode (zb m_PL_above) 6 = .ok (.istore_n 2, 1) from by decide +kernel) rfl).trans ?_
  refine (r_iconst (v := (0 : Int32)) (show decode (zb m_PL_above) 7 = .ok (.iconst (0), 1) from by decide +kernel) (by decide)).trans ?_
  exact r_istoren 3 (show decode (zb m_PL_above) 8 = .ok (.istore_n 3, 1) from by decide +kernel) rfl
theorem b_PL_above_9 {C : CF} {d : Nat} {σ : HP} {x3 : Int32} {a0 : Nat} {l1 : Option Value} {l2 : Option Value} (h1 : a0 % 64 = 11) (h2 : (gR σ a0 1).isSome = true) (h3 : (dr (gR σ a0 1)) % 64 = 5) (h4 : (gR σ (dr (gR σ a0 1)) 0).isSome = true) (h5 : (dr (gR σ (dr (gR σ a0 1)) 0)) % 64 = 2) : runF C d m_PL_above (9, [some (.ref a0), l1, l2, some (.int x3)], [], σ) = if (gI σ (dr (gR σ (dr (gR σ a0 1)) 0)) 1) ≤ x3 then runF C d m_PL_above (54, [some (.ref a0), l1, l2, some (.int x3)], [], σ) else runF C d m_PL_above (23, [some (.ref a0), l1, l2, some (.int x3)], [], σ) := by
  refine (r_iloadn 3 (show decode (zb m_PL_above) 9 = .ok (.iload_n 3, 1) from by decide +kernel) rfl).trans ?_
  refine (r_aloadn 0 (show decode (zb m_PL_above) 10 = .ok (.aload_n 0, 1) from by decide +kernel) rfl).trans ?_
  refine (r_getR (show decode (zb m_PL_above) 11 = .ok (.getfield 19, 3) from by decide +kernel) rfl rfl h1 h2).trans ?_
  refine (r_getR (show decode (zb m_PL_above) 14 = .ok (.getfield 138, 3) from by decide +kernel) rfl rfl h3 h4).trans ?_
  refine (r_getI (show decode (zb m_PL_above) 17 = .ok (.getfield 116, 3) from by decide +kernel) rfl rfl h5).trans ?_
  exact r_icmp_ge 54 (show decode (zb m_PL_above) 20 = .ok (.if_icmp .ge (34), 3) from by decide +kernel) rfl
theorem b_PL_above_23 {C : CF} {d : Nat} {σ : HP} {a0 : Nat} {x3 : Int32} {l1 : Option Value} {l2 : Option Value} (h1 : a0 % 64 = 11) (h2 : (gR σ a0 1).isSome = true) (h3 : (dr (gR σ a0 1)) % 64 = 5) : runF C d m_PL_above (23, [some (.ref a0), l1, l2, some (.int x3)], [], σ) = bk C d m_PL_above 28 [some (.ref a0), l1, l2, some (.int x3)] [] (C m_Lift_placeOf [.ref (dr (gR σ a0 1)), .int x3] σ) := by
  refine (r_aloadn 0 (show decode (zb m_PL_above) 23 = .ok (.aload_n 0, 1) from by decide +kernel) rfl).trans ?_
  refine (r_getR (show decode (zb m_PL_above) 24 = .ok (.getfield 19, 3) from by decide +kernel) rfl rfl h1 h2).trans ?_
  refine (r_iloadn 3 (show decode (zb m_PL_above) 27 = .ok (.iload_n 3, 1) from by decide +kernel) rfl).trans ?_
  exact r_virt (args := [.int x3]) (rest := []) (show decode (zb m_PL_above) 28 = .ok (.invokevirtual 218, 3) from by decide +kernel) rfl rfl rfl h3
theorem b_PL_above_31 {C : CF} {d : Nat} {σ : HP} {s0 : Int32} {a0 : Nat} {x1 : Int32} {l2 : Option Value} {l3 : Option Value} (h1 : a0 % 64 = 11) (h2 : (gR σ a0 1).isSome = true) (h3 : (dr (gR σ a0 1)) % 64 = 5) : runF C d m_PL_above (31, [some (.ref a0), some (.int x1), l2, l3], [.int s0], σ) = bk C d m_PL_above 36 [some (.ref a0), some (.int x1), l2, l3] [.int s0] (C m_Lift_placeOf [.ref (dr (gR σ a0 1)), .int x1] σ) := by
  refine (r_aloadn 0 (show decode (zb m_PL_above) 31 = .ok (.aload_n 0, 1) from by decide +kernel) rfl).trans ?_
  refine (r_getR (show decode (zb m_PL_above) 32 = .ok (.getfield 19, 3) from by decide +kernel) rfl rfl h1 h2).trans ?_
  refine (r_iloadn 1 (show decode (zb m_PL_above) 35 = .ok (.iload_n 1, 1) from by decide +kernel) rfl).trans ?_
  exact r_virt (args := [.int x1]) (rest := [.int s0]) (show decode (zb m_PL_above) 36 = .ok (.invokevirtual 218, 3) from by decide +kernel) rfl rfl rfl h3
theorem b_PL_above_39 {C : CF} {d : Nat} {σ : HP} {s0 : Int32} {s1 : Int32} {l0 : Option Value} {l1 : Option Value} {l2 : Option Value} {l3 : Option Value}  : runF C d m_PL_above (39, [l0, l1, l2, l3], [.int s0, .int s1], σ) = if s1 ≤ s0 then runF C d m_PL_above (48, [l0, l1, l2, l3], [], σ) else runF C d m_PL_above (42, [l0, l1, l2, l3], [], σ) := by
  exact r_icmp_le 48 (show decode (zb m_PL_above) 39 = .ok (.if_icmp .le (9), 3) from by decide +kernel) rfl
theorem b_PL_above_42 {C : CF} {d : Nat} {σ : HP} {x2 : Int32} {x3 : Int32} {l0 : Option Value} {l1 : Option Value}  : runF C d m_PL_above (42, [l0, l1, some (.int x2), some (.int x3)], [], σ) = runF C d m_PL_above (48, [l0, l1, some (.int (x2 ||| (p_shl (1 : Int32) x3))), some (.int x3)], [], σ) := by
  refine (r_iloadn 2 (show decode (zb m_PL_above) 42 = .ok (.iload_n 2, 1) from by decide +kernel) rfl).trans ?_
  refine (r_iconst (v := (1 : Int32)) (show decode (zb m_PL_above) 43 = .ok (.iconst (1), 1) from by decide +kernel) (by decide)).trans ?_
  refine (r_iloadn 3 (show decode (zb m_PL_above) 44 = .ok (.iload_n 3, 1) from by decide +kernel) rfl).trans ?_
  refine (r_ishl (show decode (zb m_PL_above) 45 = .ok (.ishl, 1) from by decide +kernel)).trans ?_
  refine (r_ior (show decode (zb m_PL_above) 46 = .ok (.ior, 1) from by decide +kernel)).trans ?_
  exact r_istoren 2 (show decode (zb m_PL_above) 47 = .ok (.istore_n 2, 1) from by decide +kernel) rfl
theorem b_PL_above_48 {C : CF} {d : Nat} {σ : HP} {x3 : Int32} {l0 : Option Value} {l1 : Option Value} {l2 : Option Value}  : runF C d m_PL_above (48, [l0, l1, l2, some (.int x3)], [], σ) = runF C d m_PL_above (9, [l0, l1, l2, some (.int (x3 + (1 : Int32)))], [], σ) := by
  refine (r_iinc 3 (v := (1 : Int32)) (show decode (zb m_PL_above) 48 = .ok (.iinc 3 (1), 3) from by decide +kernel) rfl rfl (by decide)).trans ?_
  exact r_goto 9 (show decode (zb m_PL_above) 51 = .ok (.goto (-42), 3) from by decide +kernel) rfl
theorem b_PL_above_54 {C : CF} {d : Nat} {σ : HP} {x2 : Int32} {l0 : Option Value} {l1 : Option Value} {l3 : Option Value}  : runF C d m_PL_above (54, [l0, l1, some (.int x2), l3], [], σ) = some (.inl (some (.int x2)), σ) := by
  refine (r_iloadn 2 (show decode (zb m_PL_above) 54 = .ok (.iload_n 2, 1) from by decide +kernel) rfl).trans ?_
  exact r_iret (show decode (zb m_PL_above) 55 = .ok (.ireturn, 1) from by decide +kernel) rfl rfl
theorem e_PL_ride {d : Nat} {σ : HP} {a0 : Nat} {x1 : Int32} : callF (d + 1) m_PL_ride [.ref a0, .int x1] σ = runF (callF d) d m_PL_ride (0, [some (.ref a0), some (.int x1)], [], σ) := callF_in rfl rfl
theorem b_PL_ride_0 {C : CF} {d : Nat} {σ : HP} {a0 : Nat} {x1 : Int32} (h1 : a0 % 64 = 11) : runF C d m_PL_ride (0, [some (.ref a0), some (.int x1)], [], σ) = bk C d m_PL_ride 3 [some (.ref a0), some (.int x1)] [.ref a0] (C m_PL_isSetOfMen [.ref a0, .int x1] σ) := by
  refine (r_aloadn 0 (show decode (zb m_PL_ride) 0 = .ok (.aload_n 0, 1) from by decide +kernel) rfl).trans ?_
  refine (r_aloadn 0 (show decode (zb m_PL_ride) 1 = .ok (.aload_n 0, 1) from by decide +kernel) rfl).trans ?_
  refine (r_iloadn 1 (show decode (zb m_PL_ride) 2 = .ok (.iload_n 1, 1) from by decide +kernel) rfl).trans ?_
  exact r_virt (args := [.int x1]) (rest := [.ref a0]) (show decode (zb m_PL_ride) 3 = .ok (.invokevirtual 340, 3) from by decide +kernel) rfl rfl rfl h1
theorem b_PL_ride_6 {C : CF} {d : Nat} {σ : HP} {s0 : Int32} {r1 : Nat} {l0 : Option Value} {l1 : Option Value} (h1 : r1 % 64 = 11) : runF C d m_PL_ride (6, [l0, l1], [.int s0, .ref r1], σ) = bk C d m_PL_ride 6 [l0, l1] [] (C m_PL_needArgument [.ref r1, .int s0] σ) := by
  exact r_virt (args := [.int s0]) (rest := []) (show decode (zb m_PL_ride) 6 = .ok (.invokevirtual 181, 3) from by decide +kernel) rfl rfl rfl h1
theorem b_PL_ride_9 {C : CF} {d : Nat} {σ : HP} {a0 : Nat} {x1 : Int32} (h1 : a0 % 64 = 11) (h2 : (gR σ a0 1).isSome = true) (h3 : (dr (gR σ a0 1)) % 64 = 5) : runF C d m_PL_ride (9, [some (.ref a0), some (.int x1)], [], σ) = bk C d m_PL_ride 14 [some (.ref a0), some (.int x1)] [] (C m_Lift_levelWith [.ref (dr (gR σ a0 1)), .int x1] σ) := by
  refine (r_aloadn 0 (show decode (zb m_PL_ride) 9 = .ok (.aload_n 0, 1) from by decide +kernel) rfl).trans ?_
  refine (r_getR (show decode (zb m_PL_ride) 10 = .ok (.getfield 19, 3) from by decide +kernel) rfl rfl h1 h2).trans ?_
  refine (r_iloadn 1 (show decode (zb m_PL_ride) 13 = .ok (.iload_n 1, 1) from by decide +kernel) rfl).trans ?_
  exact r_virt (args := [.int x1]) (rest := []) (show decode (zb m_PL_ride) 14 = .ok (.invokevirtual 212, 3) from by decide +kernel) rfl rfl rfl h3
theorem b_PL_ride_17 {C : CF} {d : Nat} {σ : HP} {s0 : Int32} {l0 : Option Value} {l1 : Option Value}  : runF C d m_PL_ride (17, [l0, l1], [.int s0], σ) = some (.inl (some (.int s0)), σ) := by
  exact r_iret (show decode (zb m_PL_ride) 17 = .ok (.ireturn, 1) from by decide +kernel) rfl rfl
theorem e_PL_times {d : Nat} {σ : HP} {a0 : Nat} {x1 : Int32} {x2 : Int32} {x3 : Int32} : callF (d + 1) m_PL_times [.ref a0, .int x1, .int x2, .int x3] σ = runF (callF d) d m_PL_times (0, [some (.ref a0), some (.int x1), some (.int x2), some (.int x3), none], [], σ) := callF_in rfl rfl
theorem b_PL_times_0 {C : CF} {d : Nat} {σ : HP} {a0 : Nat} {x1 : Int32} {l2 : Option Value} {l3 : Option Value} {l4 : Option Value} (h1 : a0 % 64 = 11) : runF C d m_PL_times (0, [some (.ref a0), some (.int x1), l2, l3, l4], [], σ) = bk C d m_PL_times 2 [some (.ref a0), some (.int x1), l2, l3, l4] [] (C m_PL_needMan [.ref a0, .int x1] σ) := by
  refine (r_aloadn 0 (show decode (zb m_PL_times) 0 = .ok (.aload_n 0, 1) from by decide +kernel) rfl).trans ?_
  refine (r_iloadn 1 (show decode (zb m_PL_times) 1 = .ok (.iload_n 1, 1) from by decide +kernel) rfl).trans ?_
  exact r_virt (args := [.int x1]) (rest := []) (show decode (zb m_PL_times) 2 = .ok (.invokevirtual 215, 3) from by decide +kernel) rfl rfl rfl h1
theorem b_PL_times_5 {C : CF} {d : Nat} {σ : HP} {a0 : Nat} {x2 : Int32} {l1 : Option Value} {l3 : Option Value} {l4 : Option Value} (h1 : a0 % 64 = 11) : runF C d m_PL_times (5, [some (.ref a0), l1, some (.int x2), l3, l4], [], σ) = bk C d m_PL_times 7 [some (.ref a0), l1, some (.int x2), l3, l4] [] (C m_PL_needCard [.ref a0, .int x2] σ) := by
  refine (r_aloadn 0 (show decode (zb m_PL_times) 5 = .ok (.aload_n 0, 1) from by decide +kernel) rfl).trans ?_
  refine (r_iloadn 2 (show decode (zb m_PL_times) 6 = .ok (.iload_n 2, 1) from by decide +kernel) rfl).trans ?_
  exact r_virt (args := [.int x2]) (rest := []) (show decode (zb m_PL_times) 7 = .ok (.invokevirtual 248, 3) from by decide +kernel) rfl rfl rfl h1
theorem b_PL_times_10 {C : CF} {d : Nat} {σ : HP} {a0 : Nat} {x3 : Int32} {l1 : Option Value} {l2 : Option Value} {l4 : Option Value}  : runF C d m_PL_times (10, [some (.ref a0), l1, l2, some (.int x3), l4], [], σ) = bkN C d m_PL_times 16 [some (.ref a0), l1, l2, some (.int x3), l4] [.ref a0] (C m_PL_isWithin [.int x3, .int ((0 : Int32)), .int ((999 : Int32))] σ) := by
  refine (r_aloadn 0 (show decode (zb m_PL_times) 10 = .ok (.aload_n 0, 1) from by decide +kernel) rfl).trans ?_
  refine (r_iloadn 3 (show decode (zb m_PL_times) 11 = .ok (.iload_n 3, 1) from by decide +kernel) rfl).trans ?_
  refine (r_iconst (v := (0 : Int32)) (show decode (zb m_PL_times) 12 = .ok (.iconst (0), 1) from by decide +kernel) (by decide)).trans ?_
  refine (r_sipush (v := (999 : Int32)) (show decode (zb m_PL_times) 13 = .ok (.sipush (999), 3) from by decide +kernel) (by decide)).trans ?_
  exact r_stat (args := [.int x3, .int ((0 : Int32)), .int ((999 : Int32))]) (rest := [.ref a0]) (show decode (zb m_PL_times) 16 = .ok (.invokestatic 177, 3) from by decide +kernel) rfl (by decide) rfl rfl
theorem b_PL_times_19 {C : CF} {d : Nat} {σ : HP} {s0 : Int32} {r1 : Nat} {l0 : Option Value} {l1 : Option Value} {l2 : Option Value} {l3 : Option Value} {l4 : Option Value} (h1 : r1 % 64 = 11) : runF C d m_PL_times (19, [l0, l1, l2, l3, l4], [.int s0, .ref r1], σ) = bk C d m_PL_times 19 [l0, l1, l2, l3, l4] [] (C m_PL_needArgument [.ref r1, .int s0] σ) := by
  exact r_virt (args := [.int s0]) (rest := []) (show decode (zb m_PL_times) 19 = .ok (.invokevirtual 181, 3) from by decide +kernel) rfl rfl rfl h1
theorem b_PL_times_22 {C : CF} {d : Nat} {σ : HP} {a0 : Nat} {l1 : Option Value} {l2 : Option Value} {l3 : Option Value} {l4 : Option Value} (h1 : a0 % 64 = 11) (h2 : (gR σ a0 2).isSome = true) (h3 : (gR σ a0 1).isSome = true) (h4 : (dr (gR σ a0 2)) % 64 = 5) : runF C d m_PL_times (22, [some (.ref a0), l1, l2, l3, l4], [], σ) = bk C d m_PL_times 30 [some (.ref a0), l1, l2, l3, l4] [] (C m_Lift_becomeLike [.ref (dr (gR σ a0 2)), .ref (dr (gR σ a0 1))] σ) := by
  refine (r_aloadn 0 (show decode (zb m_PL_times) 22 = .ok (.aload_n 0, 1) from by decide +kernel) rfl).trans ?_
  refine (r_getR (show decode (zb m_PL_times) 23 = .ok (.getfield 23, 3) from by decide +kernel) rfl rfl h1 h2).trans ?_
  refine (r_aloadn 0 (show decode (zb m_PL_times) 26 = .ok (.aload_n 0, 1) from by decide +kernel) rfl).trans ?_
  refine (r_getR (show decode (zb m_PL_times) 27 = .ok (.getfield 19, 3) from by decide +kernel) rfl rfl h1 h3).trans ?_
  exact r_virt (args := [.ref (dr (gR σ a0 1))]) (rest := []) (show decode (zb m_PL_times) 30 = .ok (.invokevirtual 283, 3) from by decide +kernel) rfl rfl rfl h4
theorem b_PL_times_33 {C : CF} {d : Nat} {σ : HP} {l0 : Option Value} {l1 : Option Value} {l2 : Option Value} {l3 : Option Value} {l4 : Option Value}  : runF C d m_PL_times (33, [l0, l1, l2, l3, l4], [], σ) = runF C d m_PL_times (36, [l0, l1, l2, l3, some (.int ((0 : Int32)))], [], σ) := by
  refine (r_iconst (v := (0 : Int32)) (show decode (zb m_PL_times) 33 = .ok (.iconst (0), 1) from by decide +kernel) (by decide)).trans ?_
  exact r_istore 4 (show decode (zb m_PL_times) 34 = .ok (.istore 4, 2) from by decide +kernel) rfl
theorem b_PL_times_36 {C : CF} {d : Nat} {σ : HP} {x4 : Int32} {l0 : Option Value} {l1 : Option Value} {l2 : Option Value} {l3 : Option Value}  : runF C d m_PL_times (36, [l0, l1, l2, l3, some (.int x4)], [], σ) = if (9 : Int32) < x4 then runF C d m_PL_times (78, [l0, l1, l2, l3, some (.int x4)], [], σ) else runF C d m_PL_times (43, [l0, l1, l2, l3, some (.int x4)], [], σ) := by
  refine (r_iload 4 (show decode (zb m_PL_times) 36 = .ok (.iload 4, 2) from by decide +kernel) rfl).trans ?_
  refine (r_bipush (v := (9 : Int32)) (show decode (zb m_PL_times) 38 = .ok (.bipush (9), 2) from by decide +kernel) (by decide)).trans ?_
  exact r_icmp_gt 78 (show decode (zb m_PL_times) 40 = .ok (.if_icmp .gt (38), 3) from by decide +kernel) rfl
theorem b_PL_times_43 {C : CF} {d : Nat} {σ : HP} {a0 : Nat} {x1 : Int32} {l2 : Option Value} {l3 : Option Value} {l4 : Option Value} (h1 : a0 % 64 = 11) (h2 : (gR σ a0 2).isSome = true) (h3 : (dr (gR σ a0 2)) % 64 = 5) : runF C d m_PL_times (43, [some (.ref a0), some (.int x1), l2, l3, l4], [], σ) = bk C d m_PL_times 48 [some (.ref a0), some (.int x1), l2, l3, l4] [] (C m_Lift_heavyOf [.ref (dr (gR σ a0 2)), .int x1] σ) := by
  refine (r_aloadn 0 (show decode (zb m_PL_times) 43 = .ok (.aload_n 0, 1) from by decide +kernel) rfl).trans ?_
  refine (r_getR (show decode (zb m_PL_times) 44 = .ok (.getfield 23, 3) from by decide +kernel) rfl rfl h1 h2).trans ?_
  refine (r_iloadn 1 (show decode (zb m_PL_times) 47 = .ok (.iload_n 1, 1) from by decide +kernel) rfl).trans ?_
  exact r_virt (args := [.int x1]) (rest := []) (show decode (zb m_PL_times) 48 = .ok (.invokevirtual 235, 3) from by decide +kernel) rfl rfl rfl h3
theorem b_PL_times_51 {C : CF} {d : Nat} {σ : HP} {s0 : Int32} {x3 : Int32} {l0 : Option Value} {l1 : Option Value} {l2 : Option Value} {l4 : Option Value}  : runF C d m_PL_times (51, [l0, l1, l2, some (.int x3), l4], [.int s0], σ) = if s0 < x3 then runF C d m_PL_times (58, [l0, l1, l2, some (.int x3), l4], [], σ) else runF C d m_PL_times (55, [l0, l1, l2, some (.int x3), l4], [], σ) := by
  refine (r_iloadn 3 (show decode (zb m_PL_times) 51 = .ok (.iload_n 3, 1) from by decide +kernel) rfl).trans ?_
  exact r_icmp_lt 58 (show decode (zb m_PL_times) 52 = .ok (.if_icmp .lt (6), 3) from by decide +kernel) rfl
theorem b_PL_times_55 {C : CF} {d : Nat} {σ : HP} {x4 : Int32} {l0 : Option Value} {l1 : Option Value} {l2 : Option Value} {l3 : Option Value}  : runF C d m_PL_times (55, [l0, l1, l2, l3, some (.int x4)], [], σ) = some (.inl (some (.int x4)), σ) := by
  refine (r_iload 4 (show decode (zb m_PL_times) 55 = .ok (.iload 4, 2) from by decide +kernel) rfl).trans ?_
  exact r_iret (show decode (zb m_PL_times) 57 = .ok (.ireturn, 1) from by decide +kernel) rfl rfl
theorem b_PL_times_58 {C : CF} {d : Nat} {σ : HP} {a0 : Nat} {x1 : Int32} {x2 : Int32} {l3 : Option Value} {l4 : Option Value} (h1 : a0 % 64 = 11) (h2 : (gR σ a0 2).isSome = true) (h3 : (dr (gR σ a0 2)) % 64 = 5) : runF C d m_PL_times (58, [some (.ref a0), some (.int x1), some (.int x2), l3, l4], [], σ) = bk C d m_PL_times 64 [some (.ref a0), some (.int x1), some (.int x2), l3, l4] [] (C m_Lift_sayTo [.ref (dr (gR σ a0 2)), .int x1, .int x2] σ) := by
  refine (r_aloadn 0 (show decode (zb m_PL_times) 58 = .ok (.aload_n 0, 1) from by decide +kernel) rfl).trans ?_
  refine (r_getR (show decode (zb m_PL_times) 59 = .ok (.getfield 23, 3) from by decide +kernel) rfl rfl h1 h2).trans ?_
  refine (r_iloadn 1 (show decode (zb m_PL_times) 62 = .ok (.iload_n 1, 1) from by decide +kernel) rfl).trans ?_
  refine (r_iloadn 2 (show decode (zb m_PL_times) 63 = .ok (.iload_n 2, 1) from by decide +kernel) rfl).trans ?_
  exact r_virt (args := [.int x1, .int x2]) (rest := []) (show decode (zb m_PL_times) 64 = .ok (.invokevirtual 365, 3) from by decide +kernel) rfl rfl rfl h3
theorem b_PL_times_67 {C : CF} {d : Nat} {σ : HP} {s0 : Int32} {l0 : Option Value} {l1 : Option Value} {l2 : Option Value} {l3 : Option Value} {l4 : Option Value}  : runF C d m_PL_times (67, [l0, l1, l2, l3, l4], [.int s0], σ) = if ¬ s0 = 0 then runF C d m_PL_times (72, [l0, l1, l2, l3, l4], [], σ) else runF C d m_PL_times (70, [l0, l1, l2, l3, l4], [], σ) := by
  exact r_if_ne 72 (show decode (zb m_PL_times) 67 = .ok (.ifCond .ne (5), 3) from by decide +kernel) rfl
theorem b_PL_times_70 {C : CF} {d : Nat} {σ : HP} {l0 : Option Value} {l1 : Option Value} {l2 : Option Value} {l3 : Option Value} {l4 : Option Value}  : runF C d m_PL_times (70, [l0, l1, l2, l3, l4], [], σ) = some (.inl (some (.int (-1 : Int32))), σ) := by
  refine (r_iconst (v := (-1 : Int32)) (show decode (zb m_PL_times) 70 = .ok (.iconst (-1), 1) from by decide +kernel) (by decide)).trans ?_
  exact r_iret (show decode (zb m_PL_times) 71 = .ok (.ireturn, 1) from by decide +kernel) rfl rfl
theorem b_PL_times_72 {C : CF} {d : Nat} {σ : HP} {x4 : Int32} {l0 : Option Value} {l1 : Option Value} {l2 : Option Value} {l3 : Option Value}  : runF C d m_PL_times (72, [l0, l1, l2, l3, some (.int x4)], [], σ) = runF C d m_PL_times (36, [l0, l1, l2, l3, some (.int (x4 + (1 : Int32)))], [], σ) := by
  refine (r_iinc 4 (v := (1 : Int32)) (show decode (zb m_PL_times) 72 = .ok (.iinc 4 (1), 3) from by decide +kernel) rfl rfl (by decide)).trans ?_
  exact r_goto 36 (show decode (zb m_PL_times) 75 = .ok (.goto (-39), 3) from by decide +kernel) rfl
theorem b_PL_times_78 {C : CF} {d : Nat} {σ : HP} {l0 : Option Value} {l1 : Option Value} {l2 : Option Value} {l3 : Option Value} {l4 : Option Value}  : runF C d m_PL_times (78, [l0, l1, l2, l3, l4], [], σ) = some (.inl (some (.int (-1 : Int32))), σ) := by
  refine (r_iconst (v := (-1 : Int32)) (show decode (zb m_PL_times) 78 = .ok (.iconst (-1), 1) from by decide +kernel) (by decide)).trans ?_
  exact r_iret (show decode (zb m_PL_times) 79 = .ok (.ireturn, 1) from by decide +kernel) rfl rfl
theorem e_PL_week {d : Nat} {σ : HP} {a0 : Nat} {x1 : Int32} {x2 : Int32} {x3 : Int32} {x4 : Int32} : callF (d + 1) m_PL_week [.ref a0, .int x1, .int x2, .int x3, .int x4] σ = runF (callF d) d m_PL_week (0, [some (.ref a0), some (.int x1), some (.int x2), some (.int x3), some (.int x4)], [], σ) := callF_in rfl rfl
theorem b_PL_week_0 {C : CF} {d : Nat} {σ : HP} {a0 : Nat} {x2 : Int32} {l1 : Option Value} {l3 : Option Value} {l4 : Option Value}  : runF C d m_PL_week (0, [some (.ref a0), l1, some (.int x2), l3, l4], [], σ) = bkN C d m_PL_week 5 [some (.ref a0), l1, some (.int x2), l3, l4] [.ref a0] (C m_PL_isWithin [.int x2, .int ((0 : Int32)), .int ((16 : Int32))] σ) := by
  refine (r_aloadn 0 (show decode (zb m_PL_week) 0 = .ok (.aload_n 0, 1) from by decide +kernel) rfl).trans ?_
  refine (r_iloadn 2 (show decode (zb m_PL_week) 1 = .ok (.iload_n 2, 1) from by decide +kernel) rfl).trans ?_
  refine (r_iconst (v := (0 : Int32)) (show decode (zb m_PL_week) 2 = .ok (.iconst (0), 1) from by decide +kernel) (by decide)).trans ?_
  refine (r_bipush (v := (16 : Int32)) (show decode (zb m_PL_week) 3 = .ok (.bipush (16), 2) from by decide +kernel) (by decide)).trans ?_
  exact r_stat (args := [.int x2, .int ((0 : Int32)), .int ((16 : Int32))]) (rest := [.ref a0]) (show decode (zb m_PL_week) 5 = .ok (.invokestatic 177, 3) from by decide +kernel) rfl (by decide) rfl rfl
theorem b_PL_week_8 {C : CF} {d : Nat} {σ : HP} {s0 : Int32} {r1 : Nat} {l0 : Option Value} {l1 : Option Value} {l2 : Option Value} {l3 : Option Value} {l4 : Option Value} (h1 : r1 % 64 = 11) : runF C d m_PL_week (8, [l0, l1, l2, l3, l4], [.int s0, .ref r1], σ) = bk C d m_PL_week 8 [l0, l1, l2, l3, l4] [] (C m_PL_needArgument [.ref r1, .int s0] σ) := by
  exact r_virt (args := [.int s0]) (rest := []) (show decode (zb m_PL_week) 8 = .ok (.invokevirtual 181, 3) from by decide +kernel) rfl rfl rfl h1
theorem b_PL_week_11 {C : CF} {d : Nat} {σ : HP} {a0 : Nat} {x3 : Int32} {l1 : Option Value} {l2 : Option Value} {l4 : Option Value}  : runF C d m_PL_week (11, [some (.ref a0), l1, l2, some (.int x3), l4], [], σ) = bkN C d m_PL_week 16 [some (.ref a0), l1, l2, some (.int x3), l4] [.ref a0] (C m_PL_isWithin [.int x3, .int ((1 : Int32)), .int ((48 : Int32))] σ) := by
  refine (r_aloadn 0 (show decode (zb m_PL_week) 11 = .ok (.aload_n 0, 1) from by decide +kernel) rfl).trans ?_
  refine (r_iloadn 3 (show decode (zb m_PL_week) 12 = .ok (.iload_n 3, 1) from by decide +kernel) rfl).trans ?_
  refine (r_iconst (v := (1 : Int32)) (show decode (zb m_PL_week) 13 = .ok (.iconst (1), 1) from by decide +kernel) (by decide)).trans ?_
  refine (r_bipush (v := (48 : Int32)) (show decode (zb m_PL_week) 14 = .ok (.bipush (48), 2) from by decide +kernel) (by decide)).trans ?_
  exact r_stat (args := [.int x3, .int ((1 : Int32)), .int ((48 : Int32))]) (rest := [.ref a0]) (show decode (zb m_PL_week) 16 = .ok (.invokestatic 177, 3) from by decide +kernel) rfl (by decide) rfl rfl
theorem b_PL_week_19 {C : CF} {d : Nat} {σ : HP} {s0 : Int32} {r1 : Nat} {l0 : Option Value} {l1 : Option Value} {l2 : Option Value} {l3 : Option Value} {l4 : Option Value} (h1 : r1 % 64 = 11) : runF C d m_PL_week (19, [l0, l1, l2, l3, l4], [.int s0, .ref r1], σ) = bk C d m_PL_week 19 [l0, l1, l2, l3, l4] [] (C m_PL_needArgument [.ref r1, .int s0] σ) := by
  exact r_virt (args := [.int s0]) (rest := []) (show decode (zb m_PL_week) 19 = .ok (.invokevirtual 181, 3) from by decide +kernel) rfl rfl rfl h1
theorem b_PL_week_22 {C : CF} {d : Nat} {σ : HP} {a0 : Nat} {x4 : Int32} {l1 : Option Value} {l2 : Option Value} {l3 : Option Value}  : runF C d m_PL_week (22, [some (.ref a0), l1, l2, l3, some (.int x4)], [], σ) = bkN C d m_PL_week 27 [some (.ref a0), l1, l2, l3, some (.int x4)] [.ref a0] (C m_PL_isWithin [.int x4, .int ((0 : Int32)), .int ((3 : Int32))] σ) := by
  refine (r_aloadn 0 (show decode (zb m_PL_week) 22 = .ok (.aload_n 0, 1) from by decide +kernel) rfl).trans ?_
  refine (r_iload 4 (show decode (zb m_PL_week) 23 = .ok (.iload 4, 2) from by decide +kernel) rfl).trans ?_
  refine (r_iconst (v := (0 : Int32)) (show decode (zb m_PL_week) 25 = .ok (.iconst (0), 1) from by decide +kernel) (by decide)).trans ?_
  refine (r_iconst (v := (3 : Int32)) (show decode (zb m_PL_week) 26 = .ok (.iconst (3), 1) from by decide +kernel) (by decide)).trans ?_
  exact r_stat (args := [.int x4, .int ((0 : Int32)), .int ((3 : Int32))]) (rest := [.ref a0]) (show decode (zb m_PL_week) 27 = .ok (.invokestatic 177, 3) from by decide +kernel) rfl (by decide) rfl rfl
theorem b_PL_week_30 {C : CF} {d : Nat} {σ : HP} {s0 : Int32} {r1 : Nat} {l0 : Option Value} {l1 : Option Value} {l2 : Option Value} {l3 : Option Value} {l4 : Option Value} (h1 : r1 % 64 = 11) : runF C d m_PL_week (30, [l0, l1, l2, l3, l4], [.int s0, .ref r1], σ) = bk C d m_PL_week 30 [l0, l1, l2, l3, l4] [] (C m_PL_needArgument [.ref r1, .int s0] σ) := by
  exact r_virt (args := [.int s0]) (rest := []) (show decode (zb m_PL_week) 30 = .ok (.invokevirtual 181, 3) from by decide +kernel) rfl rfl rfl h1
theorem b_PL_week_33 {C : CF} {d : Nat} {σ : HP} {a0 : Nat} {l1 : Option Value} {l2 : Option Value} {l3 : Option Value} {l4 : Option Value} (h1 : a0 % 64 = 11) (h2 : (gR σ a0 2).isSome = true) (h3 : (gR σ a0 1).isSome = true) (h4 : (dr (gR σ a0 2)) % 64 = 5) : runF C d m_PL_week (33, [some (.ref a0), l1, l2, l3, l4], [], σ) = bk C d m_PL_week 41 [some (.ref a0), l1, l2, l3, l4] [] (C m_Lift_becomeLike [.ref (dr (gR σ a0 2)), .ref (dr (gR σ a0 1))] σ) := by
  refine (r_aloadn 0 (show decode (zb m_PL_week) 33 = .ok (.aload_n 0, 1) from by decide +kernel) rfl).trans ?_
  refine (r_getR (show decode (zb m_PL_week) 34 = .ok (.getfield 23, 3) from by decide +kernel) rfl rfl h1 h2).trans ?_
  refine (r_aloadn 0 (show decode (zb m_PL_week) 37 = .ok (.aload_n 0, 1) from by decide +kernel) rfl).trans ?_
  refine (r_getR (show decode (zb m_PL_week) 38 = .ok (.getfield 19, 3) from by decide +kernel) rfl rfl h1 h3).trans ?_
  exact r_virt (args := [.ref (dr (gR σ a0 1))]) (rest := []) (show decode (zb m_PL_week) 41 = .ok (.invokevirtual 283, 3) from by decide +kernel) rfl rfl rfl h4
theorem b_PL_week_44 {C : CF} {d : Nat} {σ : HP} {a0 : Nat} {x1 : Int32} {x2 : Int32} {x3 : Int32} {l4 : Option Value} (h1 : a0 % 64 = 11) (h2 : (gR σ a0 6).isSome = true) (h3 : (gR σ a0 2).isSome = true) (h4 : (dr (gR σ a0 6)) % 64 = 9) : runF C d m_PL_week (44, [some (.ref a0), some (.int x1), some (.int x2), some (.int x3), l4], [], σ) = bk C d m_PL_week 55 [some (.ref a0), some (.int x1), some (.int x2), some (.int x3), l4] [] (C m_Week_live [.ref (dr (gR σ a0 6)), .ref (dr (gR σ a0 2)), .int x1, .int x2, .int x3] σ) := by
  refine (r_aloadn 0 (show decode (zb m_PL_week) 44 = .ok (.aload_n 0, 1) from by decide +kernel) rfl).trans ?_
  refine (r_getR (show decode (zb m_PL_week) 45 = .ok (.getfield 50, 3) from by decide +kernel) rfl rfl h1 h2).trans ?_
  refine (r_aloadn 0 (show decode (zb m_PL_week) 48 = .ok (.aload_n 0, 1) from by decide +kernel) rfl).trans ?_
  refine (r_getR (show decode (zb m_PL_week) 49 = .ok (.getfield 23, 3) from by decide +kernel) rfl rfl h1 h3).trans ?_
  refine (r_iloadn 1 (show decode (zb m_PL_week) 52 = .ok (.iload_n 1, 1) from by decide +kernel) rfl).trans ?_
  refine (r_iloadn 2 (show decode (zb m_PL_week) 53 = .ok (.iload_n 2, 1) from by decide +kernel) rfl).trans ?_
  refine (r_iloadn 3 (show decode (zb m_PL_week) 54 = .ok (.iload_n 3, 1) from by decide +kernel) rfl).trans ?_
  exact r_virt (args := [.ref (dr (gR σ a0 2)), .int x1, .int x2, .int x3]) (rest := []) (show decode (zb m_PL_week) 55 = .ok (.invokevirtual 368, 3) from by decide +kernel) rfl rfl rfl h4
theorem b_PL_week_58 {C : CF} {d : Nat} {σ : HP} {x4 : Int32} {l0 : Option Value} {l1 : Option Value} {l2 : Option Value} {l3 : Option Value}  : runF C d m_PL_week (58, [l0, l1, l2, l3, some (.int x4)], [], σ) = if x4 = 0 then runF C d m_PL_week (88, [l0, l1, l2, l3, some (.int x4)], [], σ) else if x4 = 1 then runF C d m_PL_week (110, [l0, l1, l2, l3, some (.int x4)], [], σ) else if x4 = 2 then runF C d m_PL_week (121, [l0, l1, l2, l3, some (.int x4)], [], σ) else runF C d m_PL_week (137, [l0, l1, l2, l3, some (.int x4)], [], σ) := by
  refine (r_iload 4 (show decode (zb m_PL_week) 58 = .ok (.iload 4, 2) from by decide +kernel) rfl).trans ?_
  by_cases q0 : x4 = 0
  · rw [if_pos q0]
    exact r_table 88 (show decode (zb m_PL_week) 60 = .ok (.tableswitch (77) (0) (2) #[(28), (50), (61)], 28) from by decide +kernel) (tb_in q0 rfl rfl rfl)
  rw [if_neg q0]
  by_cases q1 : x4 = 1
  · rw [if_pos q1]
    exact r_table 110 (show decode (zb m_PL_week) 60 = .ok (.tableswitch (77) (0) (2) #[(28), (50), (61)], 28) from by decide +kernel) (tb_in q1 rfl rfl rfl)
  rw [if_neg q1]
  by_cases q2 : x4 = 2
  · rw [if_pos q2]
    exact r_table 121 (show decode (zb m_PL_week) 60 = .ok (.tableswitch (77) (0) (2) #[(28), (50), (61)], 28) from by decide +kernel) (tb_in q2 rfl rfl rfl)
  rw [if_neg q2]
  have e0 : (Int32.toInt x4) ≠ 0 := ne_toInt q0
  have e1 : (Int32.toInt x4) ≠ 1 := ne_toInt q1
  have e2 : (Int32.toInt x4) ≠ 2 := ne_toInt q2
  exact r_table 137 (show decode (zb m_PL_week) 60 = .ok (.tableswitch (77) (0) (2) #[(28), (50), (61)], 28) from by decide +kernel) (tb_out (by omega) rfl)
theorem b_PL_week_88 {C : CF} {d : Nat} {σ : HP} {a0 : Nat} {l1 : Option Value} {l2 : Option Value} {l3 : Option Value} {l4 : Option Value} (h1 : a0 % 64 = 11) (h2 : (gR σ a0 2).isSome = true) (h3 : (dr (gR σ a0 2)) % 64 = 5) (h4 : (gR σ (dr (gR σ a0 2)) 2).isSome = true) (h5 : (dr (gR σ (dr (gR σ a0 2)) 2)) % 64 = 1) (h6 : (gR σ a0 1).isSome = true) (h7 : (dr (gR σ a0 1)) % 64 = 5) (h8 : (gR σ (dr (gR σ a0 1)) 2).isSome = true) (h9 : (dr (gR σ (dr (gR σ a0 1)) 2)) % 64 = 1) : runF C d m_PL_week (88, [some (.ref a0), l1, l2, l3, l4], [], σ) = some (.inl (some (.int ((gI σ (dr (gR σ (dr (gR σ a0 2)) 2)) 3) - (gI σ (dr (gR σ (dr (gR σ a0 1)) 2)) 3)))), σ) := by
  refine (r_aloadn 0 (show decode (zb m_PL_week) 88 = .ok (.aload_n 0, 1) from by decide +kernel) rfl).trans ?_
  refine (r_getR (show decode (zb m_PL_week) 89 = .ok (.getfield 23, 3) from by decide +kernel) rfl rfl h1 h2).trans ?_
  refine (r_getR (show decode (zb m_PL_week) 92 = .ok (.getfield 146, 3) from by decide +kernel) rfl rfl h3 h4).trans ?_
  refine (r_getI (show decode (zb m_PL_week) 95 = .ok (.getfield 206, 3) from by decide +kernel) rfl rfl h5).trans ?_
  refine (r_aloadn 0 (show decode (zb m_PL_week) 98 = .ok (.aload_n 0, 1) from by decide +kernel) rfl).trans ?_
  refine (r_getR (show decode (zb m_PL_week) 99 = .ok (.getfield 19, 3) from by decide +kernel) rfl rfl h1 h6).trans ?_
  refine (r_getR (show decode (zb m_PL_week) 102 = .ok (.getfield 146, 3) from by decide +kernel) rfl rfl h7 h8).trans ?_
  refine (r_getI (show decode (zb m_PL_week) 105 = .ok (.getfield 206, 3) from by decide +kernel) rfl rfl h9).trans ?_
  refine (r_isub (show decode (zb m_PL_week) 108 = .ok (.isub, 1) from by decide +kernel)).trans ?_
  exact r_iret (show decode (zb m_PL_week) 109 = .ok (.ireturn, 1) from by decide +kernel) rfl rfl
theorem b_PL_week_110 {C : CF} {d : Nat} {σ : HP} {a0 : Nat} {l1 : Option Value} {l2 : Option Value} {l3 : Option Value} {l4 : Option Value} (h1 : a0 % 64 = 11) (h2 : (gR σ a0 2).isSome = true) (h3 : (dr (gR σ a0 2)) % 64 = 5) (h4 : (gR σ (dr (gR σ a0 2)) 2).isSome = true) (h5 : (dr (gR σ (dr (gR σ a0 2)) 2)) % 64 = 1) : runF C d m_PL_week (110, [some (.ref a0), l1, l2, l3, l4], [], σ) = some (.inl (some (.int (gI σ (dr (gR σ (dr (gR σ a0 2)) 2)) 1))), σ) := by
  refine (r_aloadn 0 (show decode (zb m_PL_week) 110 = .ok (.aload_n 0, 1) from by decide +kernel) rfl).trans ?_
  refine (r_getR (show decode (zb m_PL_week) 111 = .ok (.getfield 23, 3) from by decide +kernel) rfl rfl h1 h2).trans ?_
  refine (r_getR (show decode (zb m_PL_week) 114 = .ok (.getfield 146, 3) from by decide +kernel) rfl rfl h3 h4).trans ?_
  refine (r_getI (show decode (zb m_PL_week) 117 = .ok (.getfield 196, 3) from by decide +kernel) rfl rfl h5).trans ?_
  exact r_iret (show decode (zb m_PL_week) 120 = .ok (.ireturn, 1) from by decide +kernel) rfl rfl
theorem b_PL_week_121 {C : CF} {d : Nat} {σ : HP} {a0 : Nat} {l1 : Option Value} {l2 : Option Value} {l3 : Option Value} {l4 : Option Value} (h1 : a0 % 64 = 11) (h2 : (gR σ a0 2).isSome = true) (h3 : (dr (gR σ a0 2)) % 64 = 5) : runF C d m_PL_week (121, [some (.ref a0), l1, l2, l3, l4], [], σ) = bk C d m_PL_week 125 [some (.ref a0), l1, l2, l3, l4] [] (C m_Lift_ridesOfAll [.ref (dr (gR σ a0 2))] σ) := by
  refine (r_aloadn 0 (show decode (zb m_PL_week) 121 = .ok (.aload_n 0, 1) from by decide +kernel) rfl).trans ?_
  refine (r_getR (show decode (zb m_PL_week) 122 = .ok (.getfield 23, 3) from by decide +kernel) rfl rfl h1 h2).trans ?_
  exact r_virt (args := []) (rest := []) (show decode (zb m_PL_week) 125 = .ok (.invokevirtual 371, 3) from by decide +kernel) rfl rfl rfl h3
theorem b_PL_week_128 {C : CF} {d : Nat} {σ : HP} {s0 : Int32} {a0 : Nat} {l1 : Option Value} {l2 : Option Value} {l3 : Option Value} {l4 : Option Value} (h1 : a0 % 64 = 11) (h2 : (gR σ a0 1).isSome = true) (h3 : (dr (gR σ a0 1)) % 64 = 5) : runF C d m_PL_week (128, [some (.ref a0), l1, l2, l3, l4], [.int s0], σ) = bk C d m_PL_week 132 [some (.ref a0), l1, l2, l3, l4] [.int s0] (C m_Lift_ridesOfAll [.ref (dr (gR σ a0 1))] σ) := by
  refine (r_aloadn 0 (show decode (zb m_PL_week) 128 = .ok (.aload_n 0, 1) from by decide +kernel) rfl).trans ?_
  refine (r_getR (show decode (zb m_PL_week) 129 = .ok (.getfield 19, 3) from by decide +kernel) rfl rfl h1 h2).trans ?_
  exact r_virt (args := []) (rest := [.int s0]) (show decode (zb m_PL_week) 132 = .ok (.invokevirtual 371, 3) from by decide +kernel) rfl rfl rfl h3
theorem b_PL_week_135 {C : CF} {d : Nat} {σ : HP} {s0 : Int32} {s1 : Int32} {l0 : Option Value} {l1 : Option Value} {l2 : Option Value} {l3 : Option Value} {l4 : Option Value}  : runF C d m_PL_week (135, [l0, l1, l2, l3, l4], [.int s0, .int s1], σ) = some (.inl (some (.int (s1 - s0))), σ) := by
  refine (r_isub (show decode (zb m_PL_week) 135 = .ok (.isub, 1) from by decide +kernel)).trans ?_
  exact r_iret (show decode (zb m_PL_week) 136 = .ok (.ireturn, 1) from by decide +kernel) rfl rfl
theorem b_PL_week_137 {C : CF} {d : Nat} {σ : HP} {a0 : Nat} {l1 : Option Value} {l2 : Option Value} {l3 : Option Value} {l4 : Option Value} (h1 : a0 % 64 = 11) (h2 : (gR σ a0 2).isSome = true) (h3 : (dr (gR σ a0 2)) % 64 = 5) : runF C d m_PL_week (137, [some (.ref a0), l1, l2, l3, l4], [], σ) = bk C d m_PL_week 141 [some (.ref a0), l1, l2, l3, l4] [] (C m_Lift_prideOfAll [.ref (dr (gR σ a0 2))] σ) := by
  refine (r_aloadn 0 (show decode (zb m_PL_week) 137 = .ok (.aload_n 0, 1) from by decide +kernel) rfl).trans ?_
  refine (r_getR (show decode (zb m_PL_week) 138 = .ok (.getfield 23, 3) from by decide +kernel) rfl rfl h1 h2).trans ?_
  exact r_virt (args := []) (rest := []) (show decode (zb m_PL_week) 141 = .ok (.invokevirtual 290, 3) from by decide +kernel) rfl rfl rfl h3
theorem b_PL_week_144 {C : CF} {d : Nat} {σ : HP} {s0 : Int32} {l0 : Option Value} {l1 : Option Value} {l2 : Option Value} {l3 : Option Value} {l4 : Option Value}  : runF C d m_PL_week (144, [l0, l1, l2, l3, l4], [.int s0], σ) = some (.inl (some (.int s0)), σ) := by
  exact r_iret (show decode (zb m_PL_week) 144 = .ok (.ireturn, 1) from by decide +kernel) rfl rfl
theorem e_PL_span {d : Nat} {σ : HP} {a0 : Nat} {x1 : Int32} {x2 : Int32} {x3 : Int32} {x4 : Int32} {x5 : Int32} {x6 : Int32} : callF (d + 1) m_PL_span [.ref a0, .int x1, .int x2, .int x3, .int x4, .int x5, .int x6] σ = runF (callF d) d m_PL_span (0, [some (.ref a0), some (.int x1), some (.int x2), some (.int x3), some (.int x4), some (.int x5), some (.int x6), none, none, none, none, none], [], σ) := callF_in rfl rfl
theorem b_PL_span_0 {C : CF} {d : Nat} {σ : HP} {a0 : Nat} {x2 : Int32} {l1 : Option Value} {l3 : Option Value} {l4 : Option Value} {l5 : Option Value} {l6 : Option Value} {l7 : Option Value} {l8 : Option Value} {l9 : Option Value} {l10 : Option Value} {l11 : Option Value}  : runF C d m_PL_span (0, [some (.ref a0), l1, some (.int x2), l3, l4, l5, l6, l7, l8, l9, l10, l11], [], σ) = bkN C d m_PL_span 5 [some (.ref a0), l1, some (.int x2), l3, l4, l5, l6, l7, l8, l9, l10, l11] [.ref a0] (C m_PL_isWithin [.int x2, .int ((1 : Int32)), .int ((10 : Int32))] σ) := by
  refine (r_aloadn 0 (show decode (zb m_PL_span) 0 = .ok (.aload_n 0, 1) from by decide +kernel) rfl).trans ?_
  refine (r_iloadn 2 (show decode (zb m_PL_span) 1 = .ok (.iload_n 2, 1) from by decide +kernel) rfl).trans ?_
  refine (r_iconst (v := (1 : Int32)) (show decode (zb m_PL_span) 2 = .ok (.iconst (1), 1) from by decide +kernel) (by decide)).trans ?_
  refine (r_bipush (v := (10 : Int32)) (show decode (zb m_PL_span) 3 = .ok (.bipush (10), 2) from by decide +kernel) (by decide)).trans ?_
  exact r_stat (args := [.int x2, .int ((1 : Int32)), .int ((10 : Int32))]) (rest := [.ref a0]) (show decode (zb m_PL_span) 5 = .ok (.invokestatic 177, 3) from by decide +kernel) rfl (by decide) rfl rfl
theorem b_PL_span_8 {C : CF} {d : Nat} {σ : HP} {s0 : Int32} {r1 : Nat} {l0 : Option Value} {l1 : Option Value} {l2 : Option Value} {l3 : Option Value} {l4 : Option Value} {l5 : Option Value} {l6 : Option Value} {l7 : Option Value} {l8 : Option Value} {l9 : Option Value} {l10 : Option Value} {l11 : Option Value} (h1 : r1 % 64 = 11) : runF C d m_PL_span (8, [l0, l1, l2, l3, l4, l5, l6, l7, l8, l9, l10, l11], [.int s0, .ref r1], σ) = bk C d m_PL_span 8 [l0, l1, l2, l3, l4, l5, l6, l7, l8, l9, l10, l11] [] (C m_PL_needArgument [.ref r1, .int s0] σ) := by
  exact r_virt (args := [.int s0]) (rest := []) (show decode (zb m_PL_span) 8 = .ok (.invokevirtual 181, 3) from by decide +kernel) rfl rfl rfl h1
theorem b_PL_span_11 {C : CF} {d : Nat} {σ : HP} {a0 : Nat} {x3 : Int32} {l1 : Option Value} {l2 : Option Value} {l4 : Option Value} {l5 : Option Value} {l6 : Option Value} {l7 : Option Value} {l8 : Option Value} {l9 : Option Value} {l10 : Option Value} {l11 : Option Value}  : runF C d m_PL_span (11, [some (.ref a0), l1, l2, some (.int x3), l4, l5, l6, l7, l8, l9, l10, l11], [], σ) = bkN C d m_PL_span 16 [some (.ref a0), l1, l2, some (.int x3), l4, l5, l6, l7, l8, l9, l10, l11] [.ref a0] (C m_PL_isWithin [.int x3, .int ((0 : Int32)), .int ((16 : Int32))] σ) := by
  refine (r_aloadn 0 (show decode (zb m_PL_span) 11 = .ok (.aload_n 0, 1) from by decide +kernel) rfl).trans ?_
  refine (r_iloadn 3 (show decode (zb m_PL_span) 12 = .ok (.iload_n 3, 1) from by decide +kernel) rfl).trans ?_
  refine (r_iconst (v := (0 : Int32)) (show decode (zb m_PL_span) 13 = .ok (.iconst (0), 1) from by decide +kernel) (by decide)).trans ?_
  refine (r_bipush (v := (16 : Int32)) (show decode (zb m_PL_span) 14 = .ok (.bipush (16), 2) from by decide +kernel) (by decide)).trans ?_
  exact r_stat (args := [.int x3, .int ((0 : Int32)), .int ((16 : Int32))]) (rest := [.ref a0]) (show decode (zb m_PL_span) 16 = .ok (.invokestatic 177, 3) from by decide +kernel) rfl (by decide) rfl rfl
theorem b_PL_span_19 {C : CF} {d : Nat} {σ : HP} {s0 : Int32} {r1 : Nat} {l0 : Option Value} {l1 : Option Value} {l2 : Option Value} {l3 : Option Value} {l4 : Option Value} {l5 : Option Value} {l6 : Option Value} {l7 : Option Value} {l8 : Option Value} {l9 : Option Value} {l10 : Option Value} {l11 : Option Value} (h1 : r1 % 64 = 11) : runF C d m_PL_span (19, [l0, l1, l2, l3, l4, l5, l6, l7, l8, l9, l10, l11], [.int s0, .ref r1], σ) = bk C d m_PL_span 19 [l0, l1, l2, l3, l4, l5, l6, l7, l8, l9, l10, l11] [] (C m_PL_needArgument [.ref r1, .int s0] σ) := by
  exact r_virt (args := [.int s0]) (rest := []) (show decode (zb m_PL_span) 19 = .ok (.invokevirtual 181, 3) from by decide +kernel) rfl rfl rfl h1
theorem b_PL_span_22 {C : CF} {d : Nat} {σ : HP} {a0 : Nat} {x4 : Int32} {l1 : Option Value} {l2 : Option Value} {l3 : Option Value} {l5 : Option Value} {l6 : Option Value} {l7 : Option Value} {l8 : Option Value} {l9 : Option Value} {l10 : Option Value} {l11 : Option Value}  : runF C d m_PL_span (22, [some (.ref a0), l1, l2, l3, some (.int x4), l5, l6, l7, l8, l9, l10, l11], [], σ) = bkN C d m_PL_span 28 [some (.ref a0), l1, l2, l3, some (.int x4), l5, l6, l7, l8, l9, l10, l11] [.ref a0] (C m_PL_isWithin [.int x4, .int ((1 : Int32)), .int ((48 : Int32))] σ) := by
  refine (r_aloadn 0 (show decode (zb m_PL_span) 22 = .ok (.aload_n 0, 1) from by decide +kernel) rfl).trans ?_
  refine (r_iload 4 (show decode (zb m_PL_span) 23 = .ok (.iload 4, 2) from by decide +kernel) rfl).trans ?_
  refine (r_iconst (v := (1 : Int32)) (show decode (zb m_PL_span) 25 = .ok (.iconst (1), 1) from by decide +kernel) (by decide)).trans ?_
  refine (r_bipush (v := (48 : Int32)) (show decode (zb m_PL_span) 26 = .ok (.bipush (48), 2) from by decide +kernel) (by decide)).trans ?_
  exact r_stat (args := [.int x4, .int ((1 : Int32)), .int ((48 : Int32))]) (rest := [.ref a0]) (show decode (zb m_PL_span) 28 = .ok (.invokestatic 177, 3) from by decide +kernel) rfl (by decide) rfl rfl
theorem b_PL_span_31 {C : CF} {d : Nat} {σ : HP} {s0 : Int32} {r1 : Nat} {l0 : Option Value} {l1 : Option Value} {l2 : Option Value} {l3 : Option Value} {l4 : Option Value} {l5 : Option Value} {l6 : Option Value} {l7 : Option Value} {l8 : Option Value} {l9 : Option Value} {l10 : Option Value} {l11 : Option Value} (h1 : r1 % 64 = 11) : runF C d m_PL_span (31, [l0, l1, l2, l3, l4, l5, l6, l7, l8, l9, l10, l11], [.int s0, .ref r1], σ) = bk C d m_PL_span 31 [l0, l1, l2, l3, l4, l5, l6, l7, l8, l9, l10, l11] [] (C m_PL_needArgument [.ref r1, .int s0] σ) := by
  exact r_virt (args := [.int s0]) (rest := []) (show decode (zb m_PL_span) 31 = .ok (.invokevirtual 181, 3) from by decide +kernel) rfl rfl rfl h1
theorem b_PL_span_34 {C : CF} {d : Nat} {σ : HP} {a0 : Nat} {x5 : Int32} {l1 : Option Value} {l2 : Option Value} {l3 : Option Value} {l4 : Option Value} {l6 : Option Value} {l7 : Option Value} {l8 : Option Value} {l9 : Option Value} {l10 : Option Value} {l11 : Option Value}  : runF C d m_PL_span (34, [some (.ref a0), l1, l2, l3, l4, some (.int x5), l6, l7, l8, l9, l10, l11], [], σ) = bkN C d m_PL_span 39 [some (.ref a0), l1, l2, l3, l4, some (.int x5), l6, l7, l8, l9, l10, l11] [.ref a0] (C m_PL_isWithin [.int x5, .int ((0 : Int32)), .int ((2 : Int32))] σ) := by
  refine (r_aloadn 0 (show decode (zb m_PL_span) 34 = .ok (.aload_n 0, 1) from by decide +kernel) rfl).trans ?_
  refine (r_iload 5 (show decode (zb m_PL_span) 35 = .ok (.iload 5, 2) from by decide +kernel) rfl).trans ?_
  refine (r_iconst (v := (0 : Int32)) (show decode (zb m_PL_span) 37 = .ok (.iconst (0), 1) from by decide +kernel) (by decide)).trans ?_
  refine (r_iconst (v := (2 : Int32)) (show decode (zb m_PL_span) 38 = .ok (.iconst (2), 1) from by decide +kernel) (by decide)).trans ?_
  exact r_stat (args := [.int x5, .int ((0 : Int32)), .int ((2 : Int32))]) (rest := [.ref a0]) (show decode (zb m_PL_span) 39 = .ok (.invokestatic 177, 3) from by decide +kernel) rfl (by decide) rfl rfl
theorem b_PL_span_42 {C : CF} {d : Nat} {σ : HP} {s0 : Int32} {r1 : Nat} {l0 : Option Value} {l1 : Option Value} {l2 : Option Value} {l3 : Option Value} {l4 : Option Value} {l5 : Option Value} {l6 : Option Value} {l7 : Option Value} {l8 : Option Value} {l9 : Option Value} {l10 : Option Value} {l11 : Option Value} (h1 : r1 % 64 = 11) : runF C d m_PL_span (42, [l0, l1, l2, l3, l4, l5, l6, l7, l8, l9, l10, l11], [.int s0, .ref r1], σ) = bk C d m_PL_span 42 [l0, l1, l2, l3, l4, l5, l6, l7, l8, l9, l10, l11] [] (C m_PL_needArgument [.ref r1, .int s0] σ) := by
  exact r_virt (args := [.int s0]) (rest := []) (show decode (zb m_PL_span) 42 = .ok (.invokevirtual 181, 3) from by decide +kernel) rfl rfl rfl h1
theorem b_PL_span_45 {C : CF} {d : Nat} {σ : HP} {a0 : Nat} {x6 : Int32} {l1 : Option Value} {l2 : Option Value} {l3 : Option Value} {l4 : Option Value} {l5 : Option Value} {l7 : Option Value} {l8 : Option Value} {l9 : Option Value} {l10 : Option Value} {l11 : Option Value} (h1 : a0 % 64 = 11) (h2 : (gR σ a0 1).isSome = true) (h3 : (dr (gR σ a0 1)) % 64 = 5) (h4 : (gR σ (dr (gR σ a0 1)) 0).isSome = true) (h5 : (dr (gR σ (dr (gR σ a0 1)) 0)) % 64 = 2) : runF C d m_PL_span (45, [some (.ref a0), l1, l2, l3, l4, l5, some (.int x6), l7, l8, l9, l10, l11], [], σ) = bkN C d m_PL_span 61 [some (.ref a0), l1, l2, l3, l4, l5, some (.int x6), l7, l8, l9, l10, l11] [.ref a0] (C m_PL_isWithin [.int x6, .int ((0 : Int32)), .int ((gI σ (dr (gR σ (dr (gR σ a0 1)) 0)) 1) - (1 : Int32))] σ) := by
  refine (r_aloadn 0 (show decode (zb m_PL_span) 45 = .ok (.aload_n 0, 1) from by decide +kernel) rfl).trans ?_
  refine (r_iload 6 (show decode (zb m_PL_span) 46 = .ok (.iload 6, 2) from by decide +kernel) rfl).trans ?_
  refine (r_iconst (v := (0 : Int32)) (show decode (zb m_PL_span) 48 = .ok (.iconst (0), 1) from by decide +kernel) (by decide)).trans ?_
  refine (r_aloadn 0 (show decode (zb m_PL_span) 49 = .ok (.aload_n 0, 1) from by decide +kernel) rfl).trans ?_
  refine (r_getR (show decode (zb m_PL_span) 50 = .ok (.getfield 19, 3) from by decide +kernel) rfl rfl h1 h2).trans ?_
  refine (r_getR (show decode (zb m_PL_span) 53 = .ok (.getfield 138, 3) from by decide +kernel) rfl rfl h3 h4).trans ?_
  refine (r_getI (show decode (zb m_PL_span) 56 = .ok (.getfield 116, 3) from by decide +kernel) rfl rfl h5).trans ?_
  refine (r_iconst (v := (1 : Int32)) (show decode (zb m_PL_span) 59 = .ok (.iconst (1), 1) from by decide +kernel) (by decide)).trans ?_
  refine (r_isub (show decode (zb m_PL_span) 60 = .ok (.isub, 1) from by decide +kernel)).trans ?_
  exact r_stat (args := [.int x6, .int ((0 : Int32)), .int ((gI σ (dr (gR σ (dr (gR σ a0 1)) 0)) 1) - (1 : Int32))]) (rest := [.ref a0]) (show decode (zb m_PL_span) 61 = .ok (.invokestatic 177, 3) from by decide +kernel) rfl (by decide) rfl rfl
theorem b_PL_span_64 {C : CF} {d : Nat} {σ : HP} {s0 : Int32} {r1 : Nat} {l0 : Option Value} {l1 : Option Value} {l2 : Option Value} {l3 : Option Value} {l4 : Option Value} {l5 : Option Value} {l6 : Option Value} {l7 : Option Value} {l8 : Option Value} {l9 : Option Value} {l10 : Option Value} {l11 : Option Value} (h1 : r1 % 64 = 11) : runF C d m_PL_span (64, [l0, l1, l2, l3, l4, l5, l6, l7, l8, l9, l10, l11], [.int s0, .ref r1], σ) = bk C d m_PL_span 64 [l0, l1, l2, l3, l4, l5, l6, l7, l8, l9, l10, l11] [] (C m_PL_needArgument [.ref r1, .int s0] σ) := by
  exact r_virt (args := [.int s0]) (rest := []) (show decode (zb m_PL_span) 64 = .ok (.invokevirtual 181, 3) from by decide +kernel) rfl rfl rfl h1
theorem b_PL_span_67 {C : CF} {d : Nat} {σ : HP} {l0 : Option Value} {l1 : Option Value} {l2 : Option Value} {l3 : Option Value} {l4 : Option Value} {l5 : Option Value} {l6 : Option Value} {l7 : Option Value} {l8 : Option Value} {l9 : Option Value} {l10 : Option Value} {l11 : Option Value}  : runF C d m_PL_span (67, [l0, l1, l2, l3, l4, l5, l6, l7, l8, l9, l10, l11], [], σ) = runF C d m_PL_span (79, [l0, l1, l2, l3, l4, l5, l6, some (.int ((0 : Int32))), some (.int ((0 : Int32))), some (.int ((0 : Int32))), some (.int ((0 : Int32))), l11], [], σ) := by
  refine (r_iconst (v := (0 : Int32)) (show decode (zb m_PL_span) 67 = .ok (.iconst (0), 1) from by decide +kernel) (by decide)).trans ?_
  refine (r_istore 7 (show decode (zb m_PL_span) 68 = .ok (.istore 7, 2) from by decide +kernel) rfl).trans ?_
  refine (r_iconst (v := (0 : Int32)) (show decode (zb m_PL_span) 70 = .ok (.iconst (0), 1) from by decide +kernel) (by decide)).trans ?_
  refine (r_istore 8 (show decode (zb m_PL_span) 71 = .ok (.istore 8, 2) from by decide +kernel) rfl).trans ?_
  refine (r_iconst (v := (0 : Int32)) (show decode (zb m_PL_span) 73 = .ok (.iconst (0), 1) from by decide +kernel) (by decide)).trans ?_
  refine (r_istore 9 (show decode (zb m_PL_span) 74 = .ok (.istore 9, 2) from by decide +kernel) rfl).trans ?_
  refine (r_iconst (v := (0 : Int32)) (show decode (zb m_PL_span) 76 = .ok (.iconst (0), 1) from by decide +kernel) (by decide)).trans ?_
  exact r_istore 10 (show decode (zb m_PL_span) 77 = .ok (.istore 10, 2) from by decide +kernel) rfl
theorem b_PL_span_79 {C : CF} {d : Nat} {σ : HP} {x10 : Int32} {x2 : Int32} {l0 : Option Value} {l1 : Option Value} {l3 : Option Value} {l4 : Option Value} {l5 : Option Value} {l6 : Option Value} {l7 : Option Value} {l8 : Option Value} {l9 : Option Value} {l11 : Option Value}  : runF C d m_PL_span (79, [l0, l1, some (.int x2), l3, l4, l5, l6, l7, l8, l9, some (.int x10), l11], [], σ) = if x2 ≤ x10 then runF C d m_PL_span (180, [l0, l1, some (.int x2), l3, l4, l5, l6, l7, l8, l9, some (.int x10), l11], [], σ) else runF C d m_PL_span (85, [l0, l1, some (.int x2), l3, l4, l5, l6, l7, l8, l9, some (.int x10), l11], [], σ) := by
  refine (r_iload 10 (show decode (zb m_PL_span) 79 = .ok (.iload 10, 2) from by decide +kernel) rfl).trans ?_
  refine (r_iloadn 2 (show decode (zb m_PL_span) 81 = .ok (.iload_n 2, 1) from by decide +kernel) rfl).trans ?_
  exact r_icmp_ge 180 (show decode (zb m_PL_span) 82 = .ok (.if_icmp .ge (98), 3) from by decide +kernel) rfl
theorem b_PL_span_85 {C : CF} {d : Nat} {σ : HP} {a0 : Nat} {l1 : Option Value} {l2 : Option Value} {l3 : Option Value} {l4 : Option Value} {l5 : Option Value} {l6 : Option Value} {l7 : Option Value} {l8 : Option Value} {l9 : Option Value} {l10 : Option Value} {l11 : Option Value} (h1 : a0 % 64 = 11) (h2 : (gR σ a0 2).isSome = true) (h3 : (gR σ a0 1).isSome = true) (h4 : (dr (gR σ a0 2)) % 64 = 5) : runF C d m_PL_span (85, [some (.ref a0), l1, l2, l3, l4, l5, l6, l7, l8, l9, l10, l11], [], σ) = bk C d m_PL_span 93 [some (.ref a0), l1, l2, l3, l4, l5, l6, l7, l8, l9, l10, l11] [] (C m_Lift_becomeLike [.ref (dr (gR σ a0 2)), .ref (dr (gR σ a0 1))] σ) := by
  refine (r_aloadn 0 (show decode (zb m_PL_span) 85 = .ok (.aload_n 0, 1) from by decide +kernel) rfl).trans ?_
  refine (r_getR (show decode (zb m_PL_span) 86 = .ok (.getfield 23, 3) from by decide +kernel) rfl rfl h1 h2).trans ?_
  refine (r_aloadn 0 (show decode (zb m_PL_span) 89 = .ok (.aload_n 0, 1) from by decide +kernel) rfl).trans ?_
  refine (r_getR (show decode (zb m_PL_span) 90 = .ok (.getfield 19, 3) from by decide +kernel) rfl rfl h1 h3).trans ?_
  exact r_virt (args := [.ref (dr (gR σ a0 1))]) (rest := []) (show decode (zb m_PL_span) 93 = .ok (.invokevirtual 283, 3) from by decide +kernel) rfl rfl rfl h4
theorem b_PL_span_96 {C : CF} {d : Nat} {σ : HP} {a0 : Nat} {x1 : Int32} {x10 : Int32} {x3 : Int32} {x4 : Int32} {l2 : Option Value} {l5 : Option Value} {l6 : Option Value} {l7 : Option Value} {l8 : Option Value} {l9 : Option Value} {l11 : Option Value} (h1 : a0 % 64 = 11) (h2 : (gR σ a0 6).isSome = true) (h3 : (gR σ a0 2).isSome = true) (h4 : (dr (gR σ a0 6)) % 64 = 9) : runF C d m_PL_span (96, [some (.ref a0), some (.int x1), l2, some (.int x3), some (.int x4), l5, l6, l7, l8, l9, some (.int x10), l11], [], σ) = bk C d m_PL_span 111 [some (.ref a0), some (.int x1), l2, some (.int x3), some (.int x4), l5, l6, l7, l8, l9, some (.int x10), l11] [] (C m_Week_live [.ref (dr (gR σ a0 6)), .ref (dr (gR σ a0 2)), .int (x1 + x10), .int x3, .int x4] σ) := by
  refine (r_aloadn 0 (show decode (zb m_PL_span) 96 = .ok (.aload_n 0, 1) from by decide +kernel) rfl).trans ?_
  refine (r_getR (show decode (zb m_PL_span) 97 = .ok (.getfield 50, 3) from by decide +kernel) rfl rfl h1 h2).trans ?_
  refine (r_aloadn 0 (show decode (zb m_PL_span) 100 = .ok (.aload_n 0, 1) from by decide +kernel) rfl).trans ?_
  refine (r_getR (show decode (zb m_PL_span) 101 = .ok (.getfield 23, 3) from by decide +kernel) rfl rfl h1 h3).trans ?_
  refine (r_iloadn 1 (show decode (zb m_PL_span) 104 = .ok (.iload_n 1, 1) from by decide +kernel) rfl).trans ?_
  refine (r_iload 10 (show decode (zb m_PL_span) 105 = .ok (.iload 10, 2) from by decide +kernel) rfl).trans ?_
  refine (r_iadd (show decode (zb m_PL_span) 107 = .ok (.iadd, 1) from by decide +kernel)).trans ?_
  refine (r_iloadn 3 (show decode (zb m_PL_span) 108 = .ok (.iload_n 3, 1) from by decide +kernel) rfl).trans ?_
  refine (r_iload 4 (show decode (zb m_PL_span) 109 = .ok (.iload 4, 2) from by decide +kernel) rfl).trans ?_
  exact r_virt (args := [.ref (dr (gR σ a0 2)), .int (x1 + x10), .int x3, .int x4]) (rest := []) (show decode (zb m_PL_span) 111 = .ok (.invokevirtual 368, 3) from by decide +kernel) rfl rfl rfl h4
theorem b_PL_span_114 {C : CF} {d : Nat} {σ : HP} {a0 : Nat} {l1 : Option Value} {l2 : Option Value} {l3 : Option Value} {l4 : Option Value} {l5 : Option Value} {l6 : Option Value} {l7 : Option Value} {l8 : Option Value} {l9 : Option Value} {l10 : Option Value} {l11 : Option Value} (h1 : a0 % 64 = 11) (h2 : (gR σ a0 2).isSome = true) (h3 : (dr (gR σ a0 2)) % 64 = 5) : runF C d m_PL_span (114, [some (.ref a0), l1, l2, l3, l4, l5, l6, l7, l8, l9, l10, l11], [], σ) = bk C d m_PL_span 118 [some (.ref a0), l1, l2, l3, l4, l5, l6, l7, l8, l9, l10, l11] [] (C m_Lift_ridesOfAll [.ref (dr (gR σ a0 2))] σ) := by
  refine (r_aloadn 0 (show decode (zb m_PL_span) 114 = .ok (.aload_n 0, 1) from by decide +kernel) rfl).trans ?_
  refine (r_getR (show decode (zb m_PL_span) 115 = .ok (.getfield 23, 3) from by decide +kernel) rfl rfl h1 h2).trans ?_
  exact r_virt (args := []) (rest := []) (show decode (zb m_PL_span) 118 = .ok (.invokevirtual 371, 3) from by decide +kernel) rfl rfl rfl h3
theorem b_PL_span_121 {C : CF} {d : Nat} {σ : HP} {s0 : Int32} {a0 : Nat} {l1 : Option Value} {l2 : Option Value} {l3 : Option Value} {l4 : Option Value} {l5 : Option Value} {l6 : Option Value} {l7 : Option Value} {l8 : Option Value} {l9 : Option Value} {l10 : Option Value} {l11 : Option Value} (h1 : a0 % 64 = 11) (h2 : (gR σ a0 1).isSome = true) (h3 : (dr (gR σ a0 1)) % 64 = 5) : runF C d m_PL_span (121, [some (.ref a0), l1, l2, l3, l4, l5, l6, l7, l8, l9, l10, l11], [.int s0], σ) = bk C d m_PL_span 125 [some (.ref a0), l1, l2, l3, l4, l5, l6, l7, l8, l9, l10, l11] [.int s0] (C m_Lift_ridesOfAll [.ref (dr (gR σ a0 1))] σ) := by
  refine (r_aloadn 0 (show decode (zb m_PL_span) 121 = .ok (.aload_n 0, 1) from by decide +kernel) rfl).trans ?_
  refine (r_getR (show decode (zb m_PL_span) 122 = .ok (.getfield 19, 3) from by decide +kernel) rfl rfl h1 h2).trans ?_
  exact r_virt (args := []) (rest := [.int s0]) (show decode (zb m_PL_span) 125 = .ok (.invokevirtual 371, 3) from by decide +kernel) rfl rfl rfl h3
theorem b_PL_span_128 {C : CF} {d : Nat} {σ : HP} {s0 : Int32} {s1 : Int32} {x10 : Int32} {l0 : Option Value} {l1 : Option Value} {l2 : Option Value} {l3 : Option Value} {l4 : Option Value} {l5 : Option Value} {l6 : Option Value} {l7 : Option Value} {l8 : Option Value} {l9 : Option Value} {l11 : Option Value}  : runF C d m_PL_span (128, [l0, l1, l2, l3, l4, l5, l6, l7, l8, l9, some (.int x10), l11], [.int s0, .int s1], σ) = if ¬ x10 = 0 then runF C d m_PL_span (141, [l0, l1, l2, l3, l4, l5, l6, l7, l8, l9, some (.int x10), some (.int (s1 - s0))], [], σ) else runF C d m_PL_span (136, [l0, l1, l2, l3, l4, l5, l6, l7, l8, l9, some (.int x10), some (.int (s1 - s0))], [], σ) := by
  refine (r_isub (show decode (zb m_PL_span) 128 = .ok (.isub, 1) from by decide +kernel)).trans ?_
  refine (r_istore 11 (show decode (zb m_PL_span) 129 = .ok (.istore 11, 2) from by decide +kernel) rfl).trans ?_
  refine (r_iload 10 (show decode (zb m_PL_span) 131 = .ok (.iload 10, 2) from by decide +kernel) rfl).trans ?_
  exact r_if_ne 141 (show decode (zb m_PL_span) 133 = .ok (.ifCond .ne (8), 3) from by decide +kernel) rfl
theorem b_PL_span_136 {C : CF} {d : Nat} {σ : HP} {x11 : Int32} {l0 : Option Value} {l1 : Option Value} {l2 : Option Value} {l3 : Option Value} {l4 : Option Value} {l5 : Option Value} {l6 : Option Value} {l7 : Option Value} {l8 : Option Value} {l9 : Option Value} {l10 : Option Value}  : runF C d m_PL_span (136, [l0, l1, l2, l3, l4, l5, l6, l7, l8, l9, l10, some (.int x11)], [], σ) = runF C d m_PL_span (148, [l0, l1, l2, l3, l4, l5, l6, l7, l8, l9, l10, some (.int x11)], [.int x11], σ) := by
  refine (r_iload 11 (show decode (zb m_PL_span) 136 = .ok (.iload 11, 2) from by decide +kernel) rfl).trans ?_
  exact r_goto 148 (show decode (zb m_PL_span) 138 = .ok (.goto (10), 3) from by decide +kernel) rfl
theorem b_PL_span_141 {C : CF} {d : Nat} {σ : HP} {x7 : Int32} {x11 : Int32} {l0 : Option Value} {l1 : Option Value} {l2 : Option Value} {l3 : Option Value} {l4 : Option Value} {l5 : Option Value} {l6 : Option Value} {l8 : Option Value} {l9 : Option Value} {l10 : Option Value}  : runF C d m_PL_span (141, [l0, l1, l2, l3, l4, l5, l6, some (.int x7), l8, l9, l10, some (.int x11)], [], σ) = runF C d m_PL_span (148, [l0, l1, l2, l3, l4, l5, l6, some (.int x7), l8, l9, l10, some (.int x11)], [.int (p_min x7 x11)], σ) := by
  refine (r_iload 7 (show decode (zb m_PL_span) 141 = .ok (.iload 7, 2) from by decide +kernel) rfl).trans ?_
  refine (r_iload 11 (show decode (zb m_PL_span) 143 = .ok (.iload 11, 2) from by decide +kernel) rfl).trans ?_
  exact r_min (show decode (zb m_PL_span) 145 = .ok (.invokestatic 350, 3) from by decide +kernel) rfl rfl
theorem b_PL_span_148 {C : CF} {d : Nat} {σ : HP} {s0 : Int32} {x8 : Int32} {x11 : Int32} {a0 : Nat} {x6 : Int32} {l1 : Option Value} {l2 : Option Value} {l3 : Option Value} {l4 : Option Value} {l5 : Option Value} {l7 : Option Value} {l9 : Option Value} {l10 : Option Value} (h1 : a0 % 64 = 11) (h2 : (gR σ a0 2).isSome = true) (h3 : (dr (gR σ a0 2)) % 64 = 5) : runF C d m_PL_span (148, [some (.ref a0), l1, l2, l3, l4, l5, some (.int x6), l7, some (.int x8), l9, l10, some (.int x11)], [.int s0], σ) = bk C d m_PL_span 165 [some (.ref a0), l1, l2, l3, l4, l5, some (.int x6), some (.int s0), some (.int (p_max x8 x11)), l9, l10, some (.int x11)] [] (C m_Lift_placeOf [.ref (dr (gR σ a0 2)), .int x6] σ) := by
  refine (r_istore 7 (show decode (zb m_PL_span) 148 = .ok (.istore 7, 2) from by decide +kernel) rfl).trans ?_
  refine (r_iload 8 (show decode (zb m_PL_span) 150 = .ok (.iload 8, 2) from by decide +kernel) rfl).trans ?_
  refine (r_iload 11 (show decode (zb m_PL_span) 152 = .ok (.iload 11, 2) from by decide +kernel) rfl).trans ?_
  refine (r_max (show decode (zb m_PL_span) 154 = .ok (.invokestatic 374, 3) from by decide +kernel) rfl rfl).trans ?_
  refine (r_istore 8 (show decode (zb m_PL_span) 157 = .ok (.istore 8, 2) from by decide +kernel) rfl).trans ?_
  refine (r_aloadn 0 (show decode (zb m_PL_span) 159 = .ok (.aload_n 0, 1) from by decide +kernel) rfl).trans ?_
  refine (r_getR (show decode (zb m_PL_span) 160 = .ok (.getfield 23, 3) from by decide +kernel) rfl rfl h1 h2).trans ?_
  refine (r_iload 6 (show decode (zb m_PL_span) 163 = .ok (.iload 6, 2) from by decide +kernel) rfl).trans ?_
  exact r_virt (args := [.int x6]) (rest := []) (show decode (zb m_PL_span) 165 = .ok (.invokevirtual 218, 3) from by decide +kernel) rfl rfl rfl h3
theorem b_PL_span_168 {C : CF} {d : Nat} {σ : HP} {s0 : Int32} {l0 : Option Value} {l1 : Option Value} {l2 : Option Value} {l3 : Option Value} {l4 : Option Value} {l5 : Option Value} {l6 : Option Value} {l7 : Option Value} {l8 : Option Value} {l9 : Option Value} {l10 : Option Value} {l11 : Option Value}  : runF C d m_PL_span (168, [l0, l1, l2, l3, l4, l5, l6, l7, l8, l9, l10, l11], [.int s0], σ) = if s0 ≤ 0 then runF C d m_PL_span (174, [l0, l1, l2, l3, l4, l5, l6, l7, l8, l9, l10, l11], [], σ) else runF C d m_PL_span (171, [l0, l1, l2, l3, l4, l5, l6, l7, l8, l9, l10, l11], [], σ) := by
  exact r_if_le 174 (show decode (zb m_PL_span) 168 = .ok (.ifCond .le (6), 3) from by decide +kernel) rfl
theorem b_PL_span_171 {C : CF} {d : Nat} {σ : HP} {x9 : Int32} {l0 : Option Value} {l1 : Option Value} {l2 : Option Value} {l3 : Option Value} {l4 : Option Value} {l5 : Option Value} {l6 : Option Value} {l7 : Option Value} {l8 : Option Value} {l10 : Option Value} {l11 : Option Value}  : runF C d m_PL_span (171, [l0, l1, l2, l3, l4, l5, l6, l7, l8, some (.int x9), l10, l11], [], σ) = runF C d m_PL_span (174, [l0, l1, l2, l3, l4, l5, l6, l7, l8, some (.int (x9 + (1 : Int32))), l10, l11], [], σ) := by
  exact r_iinc 9 (v := (1 : Int32)) (show decode (zb m_PL_span) 171 = .ok (.iinc 9 (1), 3) from by decide +kernel) rfl rfl (by decide)
theorem b_PL_span_174 {C : CF} {d : Nat} {σ : HP} {x10 : Int32} {l0 : Option Value} {l1 : Option Value} {l2 : Option Value} {l3 : Option Value} {l4 : Option Value} {l5 : Option Value} {l6 : Option Value} {l7 : Option Value} {l8 : Option Value} {l9 : Option Value} {l11 : Option Value}  : runF C d m_PL_span (174, [l0, l1, l2, l3, l4, l5, l6, l7, l8, l9, some (.int x10), l11], [], σ) = runF C d m_PL_span (79, [l0, l1, l2, l3, l4, l5, l6, l7, l8, l9, some (.int (x10 + (1 : Int32))), l11], [], σ) := by
  refine (r_iinc 10 (v := (1 : Int32)) (show decode (zb m_PL_span) 174 = .ok (.iinc 10 (1), 3) from by decide +kernel) rfl rfl (by decide)).trans ?_
  exact r_goto 79 (show decode (zb m_PL_span) 177 = .ok (.goto (-98), 3) from by decide +kernel) rfl
theorem b_PL_span_180 {C : CF} {d : Nat} {σ : HP} {x5 : Int32} {l0 : Option Value} {l1 : Option Value} {l2 : Option Value} {l3 : Option Value} {l4 : Option Value} {l6 : Option Value} {l7 : Option Value} {l8 : Option Value} {l9 : Option Value} {l10 : Option Value} {l11 : Option Value}  : runF C d m_PL_span (180, [l0, l1, l2, l3, l4, some (.int x5), l6, l7, l8, l9, l10, l11], [], σ) = if ¬ x5 = (2 : Int32) then runF C d m_PL_span (189, [l0, l1, l2, l3, l4, some (.int x5), l6, l7, l8, l9, l10, l11], [], σ) else runF C d m_PL_span (186, [l0, l1, l2, l3, l4, some (.int x5), l6, l7, l8, l9, l10, l11], [], σ) := by
  refine (r_iload 5 (show decode (zb m_PL_span) 180 = .ok (.iload 5, 2) from by decide +kernel) rfl).trans ?_
  refine (r_iconst (v := (2 : Int32)) (show decode (zb m_PL_span) 182 = .ok (.iconst (2), 1) from by decide +kernel) (by decide)).trans ?_
  exact r_icmp_ne 189 (show decode (zb m_PL_span) 183 = .ok (.if_icmp .ne (6), 3) from by decide +kernel) rfl
theorem b_PL_span_186 {C : CF} {d : Nat} {σ : HP} {x9 : Int32} {l0 : Option Value} {l1 : Option Value} {l2 : Option Value} {l3 : Option Value} {l4 : Option Value} {l5 : Option Value} {l6 : Option Value} {l7 : Option Value} {l8 : Option Value} {l10 : Option Value} {l11 : Option Value}  : runF C d m_PL_span (186, [l0, l1, l2, l3, l4, l5, l6, l7, l8, some (.int x9), l10, l11], [], σ) = some (.inl (some (.int x9)), σ) := by
  refine (r_iload 9 (show decode (zb m_PL_span) 186 = .ok (.iload 9, 2) from by decide +kernel) rfl).trans ?_
  exact r_iret (show decode (zb m_PL_span) 188 = .ok (.ireturn, 1) from by decide +kernel) rfl rfl
theorem b_PL_span_189 {C : CF} {d : Nat} {σ : HP} {x5 : Int32} {l0 : Option Value} {l1 : Option Value} {l2 : Option Value} {l3 : Option Value} {l4 : Option Value} {l6 : Option Value} {l7 : Option Value} {l8 : Option Value} {l9 : Option Value} {l10 : Option Value} {l11 : Option Value}  : runF C d m_PL_span (189, [l0, l1, l2, l3, l4, some (.int x5), l6, l7, l8, l9, l10, l11], [], σ) = if ¬ x5 = 0 then runF C d m_PL_span (199, [l0, l1, l2, l3, l4, some (.int x5), l6, l7, l8, l9, l10, l11], [], σ) else runF C d m_PL_span (194, [l0, l1, l2, l3, l4, some (.int x5), l6, l7, l8, l9, l10, l11], [], σ) := by
  refine (r_iload 5 (show decode (zb m_PL_span) 189 = .ok (.iload 5, 2) from by decide +kernel) rfl).trans ?_
  exact r_if_ne 199 (show decode (zb m_PL_span) 191 = .ok (.ifCond .ne (8), 3) from by decide +kernel) rfl
theorem b_PL_span_194 {C : CF} {d : Nat} {σ : HP} {x7 : Int32} {l0 : Option Value} {l1 : Option Value} {l2 : Option Value} {l3 : Option Value} {l4 : Option Value} {l5 : Option Value} {l6 : Option Value} {l8 : Option Value} {l9 : Option Value} {l10 : Option Value} {l11 : Option Value}  : runF C d m_PL_span (194, [l0, l1, l2, l3, l4, l5, l6, some (.int x7), l8, l9, l10, l11], [], σ) = runF C d m_PL_span (201, [l0, l1, l2, l3, l4, l5, l6, some (.int x7), l8, l9, l10, l11], [.int x7], σ) := by
  refine (r_iload 7 (show decode (zb m_PL_span) 194 = .ok (.iload 7, 2) from by decide +kernel) rfl).trans ?_
  exact r_goto 201 (show decode (zb m_PL_span) 196 = .ok (.goto (5), 3) from by decide +kernel) rfl
theorem b_PL_span_199 {C : CF} {d : Nat} {σ : HP} {x8 : Int32} {l0 : Option Value} {l1 : Option Value} {l2 : Option Value} {l3 : Option Value} {l4 : Option Value} {l5 : Option Value} {l6 : Option Value} {l7 : Option Value} {l9 : Option Value} {l10 : Option Value} {l11 : Option Value}  : runF C d m_PL_span (199, [l0, l1, l2, l3, l4, l5, l6, l7, some (.int x8), l9, l10, l11], [], σ) = runF C d m_PL_span (201, [l0, l1, l2, l3, l4, l5, l6, l7, some (.int x8), l9, l10, l11], [.int x8], σ) := by
  exact r_iload 8 (show decode (zb m_PL_span) 199 = .ok (.iload 8, 2) from by decide +kernel) rfl
theorem b_PL_span_201 {C : CF} {d : Nat} {σ : HP} {s0 : Int32} {l0 : Option Value} {l1 : Option Value} {l2 : Option Value} {l3 : Option Value} {l4 : Option Value} {l5 : Option Value} {l6 : Option Value} {l7 : Option Value} {l8 : Option Value} {l9 : Option Value} {l10 : Option Value} {l11 : Option Value}  : runF C d m_PL_span (201, [l0, l1, l2, l3, l4, l5, l6, l7, l8, l9, l10, l11], [.int s0], σ) = some (.inl (some (.int s0)), σ) := by
  exact r_iret (show decode (zb m_PL_span) 201 = .ok (.ireturn, 1) from by decide +kernel) rfl rfl
