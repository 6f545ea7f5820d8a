/-! BLOCKS: what the code of each method does from one place of branching, calling or ending to the next (generated) -/
theorem bk_hnd {C : CF} {d : Nat} {m : MM} {pc : Nat} {L : LV} {rest : List Value} {x q k : Nat} {σ : HP} (hz : decide (zh m = []) = false) (hh : hnd m pc x = some (q, k)) (hk : decide (k < L.length ∧ okS (zs m) k = true) = true) : bk C d m pc L rest (some (.inr x, σ)) = runF C d m (q, L.set k none, [], σ) := by
  simp only [bk, zBack, if_neg (of_decide_eq_false hz), hh, of_decide_eq_true hk, and_self, if_true, go]
theorem e_LL_house {d : Nat} {σ : HP} {a0 : Nat} {x1 : Int32} {a2 : Nat} : callF (d + 1) m_LL_house [.ref a0, .int x1, .ref a2] σ = runF (callF d) d m_LL_house (0, [some (.ref a0), some (.int x1), some (.ref a2), none], [], σ) := callF_in rfl rfl
theorem b_LL_house_0 {C : CF} {d : Nat} {σ : HP} {a2 : Nat} {a0 : Nat} {x1 : Int32} {l3 : Option Value} (h1 : a0 % 64 = 11) : runF C d m_LL_house (0, [some (.ref a0), some (.int x1), some (.ref a2), l3], [], σ) = bk C d m_LL_house 4 [some (.ref a0), some (.int x1), some (.ref a2), l3] [.int ((0 : Int32)), .ref a2] (C m_PL_house [.ref a0, .int x1] σ) := by
  refine (r_aloadn 2 (show decode (zb m_LL_house) 0 = .ok (.aload_n 2, 1) from by decide +kernel) rfl).trans ?_
  refine (r_iconst (v := (0 : Int32)) (show decode (zb m_LL_house) 1 = .ok (.iconst (0), 1) from by decide +kernel) (by decide)).trans ?_
  refine (r_aloadn 0 (show decode (zb m_LL_house) 2 = .ok (.aload_n 0, 1) from by decide +kernel) rfl).trans ?_
  refine (r_iloadn 1 (show decode (zb m_LL_house) 3 = .ok (.iload_n 1, 1) from by decide +kernel) rfl).trans ?_
  exact r_virt (args := [.int x1]) (rest := [.int ((0 : Int32)), .ref a2]) (show decode (zb m_LL_house) 4 = .ok (.invokevirtual 7, 3) from by decide +kernel) rfl rfl rfl h1
theorem b_LL_house_7 {C : CF} {d : Nat} {σ : HP} {s0 : Int32} {s1 : Int32} {r2 : Nat} {l0 : Option Value} {l1 : Option Value} {l2 : Option Value} {l3 : Option Value} (h1 : aty (r2 % 64) = 2) (h2 : inR s1 (alen (r2 % 64)) = true) : runF C d m_LL_house (7, [l0, l1, l2, l3], [.int s0, .int s1, .ref r2], σ) = runF C d m_LL_house (15, [l0, l1, l2, l3], [], wJ σ r2 (Int32.toNatClampNeg s1) (Int32.toInt64 s0)) := by
  refine (r_i2l (show decode (zb m_LL_house) 7 = .ok (.i2l, 1) from by decide +kernel)).trans ?_
  refine (r_last (show decode (zb m_LL_house) 8 = .ok (.lastore, 1) from by decide +kernel) h1 h2).trans ?_
  exact r_goto 15 (show decode (zb m_LL_house) 9 = .ok (.goto (6), 3) from by decide +kernel) rfl
theorem b_LL_house_13 {C : CF} {d : Nat} {σ : HP} {l0 : Option Value} {l1 : Option Value} {l2 : Option Value} {l3 : Option Value}  : runF C d m_LL_house (13, [l0, l1, l2, l3], [], σ) = some (.inl (some (.int (1 : Int32))), σ) := by
  refine (r_iconst (v := (1 : Int32)) (show decode (zb m_LL_house) 13 = .ok (.iconst (1), 1) from by decide +kernel) (by decide)).trans ?_
  exact r_iret (show decode (zb m_LL_house) 14 = .ok (.ireturn, 1) from by decide +kernel) rfl rfl
theorem b_LL_house_15 {C : CF} {d : Nat} {σ : HP} {l0 : Option Value} {l1 : Option Value} {l2 : Option Value} {l3 : Option Value}  : runF C d m_LL_house (15, [l0, l1, l2, l3], [], σ) = some (.inl (some (.int (0 : Int32))), σ) := by
  refine (r_iconst (v := (0 : Int32)) (show decode (zb m_LL_house) 15 = .ok (.iconst (0), 1) from by decide +kernel) (by decide)).trans ?_
  exact r_iret (show decode (zb m_LL_house) 16 = .ok (.ireturn, 1) from by decide +kernel) rfl rfl
theorem x_LL_house_1 {C : CF} {d : Nat} {σ : HP} {l0 l1 l2 l3 : Option Value} {rest : List Value} : bk C d m_LL_house 4 [l0, l1, l2, l3] rest (some (.inr 1, σ)) = runF C d m_LL_house (13, [l0, l1, l2, none], [], σ) := bk_hnd (q := 13) (k := 3) rfl (by decide +kernel) rfl
theorem e_LL_law {d : Nat} {σ : HP} {a0 : Nat} {x1 : Int32} {a2 : Nat} : callF (d + 1) m_LL_law [.ref a0, .int x1, .ref a2] σ = runF (callF d) d m_LL_law (0, [some (.ref a0), some (.int x1), some (.ref a2), none], [], σ) := callF_in rfl rfl
theorem b_LL_law_0 {C : CF} {d : Nat} {σ : HP} {a2 : Nat} {a0 : Nat} {x1 : Int32} {l3 : Option Value} (h1 : a0 % 64 = 11) : runF C d m_LL_law (0, [some (.ref a0), some (.int x1), some (.ref a2), l3], [], σ) = bk C d m_LL_law 4 [some (.ref a0), some (.int x1), some (.ref a2), l3] [.int ((0 : Int32)), .ref a2] (C m_PL_law [.ref a0, .int x1] σ) := by
  refine (r_aloadn 2 (show decode (zb m_LL_law) 0 = .ok (.aload_n 2, 1) from by decide +kernel) rfl).trans ?_
  refine (r_iconst (v := (0 : Int32)) (show decode (zb m_LL_law) 1 = .ok (.iconst (0), 1) from by decide +kernel) (by decide)).trans ?_
  refine (r_aloadn 0 (show decode (zb m_LL_law) 2 = .ok (.aload_n 0, 1) from by decide +kernel) rfl).trans ?_
  refine (r_iloadn 1 (show decode (zb m_LL_law) 3 = .ok (.iload_n 1, 1) from by decide +kernel) rfl).trans ?_
  exact r_virt (args := [.int x1]) (rest := [.int ((0 : Int32)), .ref a2]) (show decode (zb m_LL_law) 4 = .ok (.invokevirtual 15, 3) from by decide +kernel) rfl rfl rfl h1
theorem b_LL_law_7 {C : CF} {d : Nat} {σ : HP} {s0 : Int32} {s1 : Int32} {r2 : Nat} {l0 : Option Value} {l1 : Option Value} {l2 : Option Value} {l3 : Option Value} (h1 : aty (r2 % 64) = 2) (h2 : inR s1 (alen (r2 % 64)) = true) : runF C d m_LL_law (7, [l0, l1, l2, l3], [.int s0, .int s1, .ref r2], σ) = runF C d m_LL_law (15, [l0, l1, l2, l3], [], wJ σ r2 (Int32.toNatClampNeg s1) (Int32.toInt64 s0)) := by
  refine (r_i2l (show decode (zb m_LL_law) 7 = .ok (.i2l, 1) from by decide +kernel)).trans ?_
  refine (r_last (show decode (zb m_LL_law) 8 = .ok (.lastore, 1) from by decide +kernel) h1 h2).trans ?_
  exact r_goto 15 (show decode (zb m_LL_law) 9 = .ok (.goto (6), 3) from by decide +kernel) rfl
theorem b_LL_law_13 {C : CF} {d : Nat} {σ : HP} {l0 : Option Value} {l1 : Option Value} {l2 : Option Value} {l3 : Option Value}  : runF C d m_LL_law (13, [l0, l1, l2, l3], [], σ) = some (.inl (some (.int (1 : Int32))), σ) := by
  refine (r_iconst (v := (1 : Int32)) (show decode (zb m_LL_law) 13 = .ok (.iconst (1), 1) from by decide +kernel) (by decide)).trans ?_
  exact r_iret (show decode (zb m_LL_law) 14 = .ok (.ireturn, 1) from by decide +kernel) rfl rfl
theorem b_LL_law_15 {C : CF} {d : Nat} {σ : HP} {l0 : Option Value} {l1 : Option Value} {l2 : Option Value} {l3 : Option Value}  : runF C d m_LL_law (15, [l0, l1, l2, l3], [], σ) = some (.inl (some (.int (0 : Int32))), σ) := by
  refine (r_iconst (v := (0 : Int32)) (show decode (zb m_LL_law) 15 = .ok (.iconst (0), 1) from by decide +kernel) (by decide)).trans ?_
  exact r_iret (show decode (zb m_LL_law) 16 = .ok (.ireturn, 1) from by decide +kernel) rfl rfl
theorem x_LL_law_1 {C : CF} {d : Nat} {σ : HP} {l0 l1 l2 l3 : Option Value} {rest : List Value} : bk C d m_LL_law 4 [l0, l1, l2, l3] rest (some (.inr 1, σ)) = runF C d m_LL_law (13, [l0, l1, l2, none], [], σ) := bk_hnd (q := 13) (k := 3) rfl (by decide +kernel) rfl
theorem e_LL_work {d : Nat} {σ : HP} {a0 : Nat} {x1 : Int32} {a2 : Nat} : callF (d + 1) m_LL_work [.ref a0, .int x1, .ref a2] σ = runF (callF d) d m_LL_work (0, [some (.ref a0), some (.int x1), some (.ref a2), none], [], σ) := callF_in rfl rfl
theorem b_LL_work_0 {C : CF} {d : Nat} {σ : HP} {a2 : Nat} {a0 : Nat} {x1 : Int32} {l3 : Option Value} (h1 : a0 % 64 = 11) : runF C d m_LL_work (0, [some (.ref a0), some (.int x1), some (.ref a2), l3], [], σ) = bk C d m_LL_work 4 [some (.ref a0), some (.int x1), some (.ref a2), l3] [.int ((0 : Int32)), .ref a2] (C m_PL_work [.ref a0, .int x1] σ) := by
  refine (r_aloadn 2 (show decode (zb m_LL_work) 0 = .ok (.aload_n 2, 1) from by decide +kernel) rfl).trans ?_
  refine (r_iconst (v := (0 : Int32)) (show decode (zb m_LL_work) 1 = .ok (.iconst (0), 1) from by decide +kernel) (by decide)).trans ?_
  refine (r_aloadn 0 (show decode (zb m_LL_work) 2 = .ok (.aload_n 0, 1) from by decide +kernel) rfl).trans ?_
  refine (r_iloadn 1 (show decode (zb m_LL_work) 3 = .ok (.iload_n 1, 1) from by decide +kernel) rfl).trans ?_
  exact r_virt (args := [.int x1]) (rest := [.int ((0 : Int32)), .ref a2]) (show decode (zb m_LL_work) 4 = .ok (.invokevirtual 18, 3) from by decide +kernel) rfl rfl rfl h1
theorem b_LL_work_7 {C : CF} {d : Nat} {σ : HP} {s0 : Int32} {s1 : Int32} {r2 : Nat} {l0 : Option Value} {l1 : Option Value} {l2 : Option Value} {l3 : Option Value} (h1 : aty (r2 % 64) = 2) (h2 : inR s1 (alen (r2 % 64)) = true) : runF C d m_LL_work (7, [l0, l1, l2, l3], [.int s0, .int s1, .ref r2], σ) = runF C d m_LL_work (15, [l0, l1, l2, l3], [], wJ σ r2 (Int32.toNatClampNeg s1) (Int32.toInt64 s0)) := by
  refine (r_i2l (show decode (zb m_LL_work) 7 = .ok (.i2l, 1) from by decide +kernel)).trans ?_
  refine (r_last (show decode (zb m_LL_work) 8 = .ok (.lastore, 1) from by decide +kernel) h1 h2).trans ?_
  exact r_goto 15 (show decode (zb m_LL_work) 9 = .ok (.goto (6), 3) from by decide +kernel) rfl
theorem b_LL_work_13 {C : CF} {d : Nat} {σ : HP} {l0 : Option Value} {l1 : Option Value} {l2 : Option Value} {l3 : Option Value}  : runF C d m_LL_work (13, [l0, l1, l2, l3], [], σ) = some (.inl (some (.int (1 : Int32))), σ) := by
  refine (r_iconst (v := (1 : Int32)) (show decode (zb m_LL_work) 13 = .ok (.iconst (1), 1) from by decide +kernel) (by decide)).trans ?_
  exact r_iret (show decode (zb m_LL_work) 14 = .ok (.ireturn, 1) from by decide +kernel) rfl rfl
theorem b_LL_work_15 {C : CF} {d : Nat} {σ : HP} {l0 : Option Value} {l1 : Option Value} {l2 : Option Value} {l3 : Option Value}  : runF C d m_LL_work (15, [l0, l1, l2, l3], [], σ) = some (.inl (some (.int (0 : Int32))), σ) := by
  refine (r_iconst (v := (0 : Int32)) (show decode (zb m_LL_work) 15 = .ok (.iconst (0), 1) from by decide +kernel) (by decide)).trans ?_
  exact r_iret (show decode (zb m_LL_work) 16 = .ok (.ireturn, 1) from by decide +kernel) rfl rfl
theorem x_LL_work_1 {C : CF} {d : Nat} {σ : HP} {l0 l1 l2 l3 : Option Value} {rest : List Value} : bk C d m_LL_work 4 [l0, l1, l2, l3] rest (some (.inr 1, σ)) = runF C d m_LL_work (13, [l0, l1, l2, none], [], σ) := bk_hnd (q := 13) (k := 3) rfl (by decide +kernel) rfl
theorem e_LL_book {d : Nat} {σ : HP} {a0 : Nat} {x1 : Int32} {a2 : Nat} : callF (d + 1) m_LL_book [.ref a0, .int x1, .ref a2] σ = runF (callF d) d m_LL_book (0, [some (.ref a0), some (.int x1), some (.ref a2), none], [], σ) := callF_in rfl rfl
theorem b_LL_book_0 {C : CF} {d : Nat} {σ : HP} {a2 : Nat} {a0 : Nat} {x1 : Int32} {l3 : Option Value} (h1 : a0 % 64 = 11) : runF C d m_LL_book (0, [some (.ref a0), some (.int x1), some (.ref a2), l3], [], σ) = bk C d m_LL_book 4 [some (.ref a0), some (.int x1), some (.ref a2), l3] [.int ((0 : Int32)), .ref a2] (C m_PL_book [.ref a0, .int x1] σ) := by
  refine (r_aloadn 2 (show decode (zb m_LL_book) 0 = .ok (.aload_n 2, 1) from by decide +kernel) rfl).trans ?_
  refine (r_iconst (v := (0 : Int32)) (show decode (zb m_LL_book) 1 = .ok (.iconst (0), 1) from by decide +kernel) (by decide)).trans ?_
  refine (r_aloadn 0 (show decode (zb m_LL_book) 2 = .ok (.aload_n 0, 1) from by decide +kernel) rfl).trans ?_
  refine (r_iloadn 1 (show decode (zb m_LL_book) 3 = .ok (.iload_n 1, 1) from by decide +kernel) rfl).trans ?_
  exact r_virt (args := [.int x1]) (rest := [.int ((0 : Int32)), .ref a2]) (show decode (zb m_LL_book) 4 = .ok (.invokevirtual 21, 3) from by decide +kernel) rfl rfl rfl h1
theorem b_LL_book_7 {C : CF} {d : Nat} {σ : HP} {s0 : Int32} {s1 : Int32} {r2 : Nat} {l0 : Option Value} {l1 : Option Value} {l2 : Option Value} {l3 : Option Value} (h1 : aty (r2 % 64) = 2) (h2 : inR s1 (alen (r2 % 64)) = true) : runF C d m_LL_book (7, [l0, l1, l2, l3], [.int s0, .int s1, .ref r2], σ) = runF C d m_LL_book (15, [l0, l1, l2, l3], [], wJ σ r2 (Int32.toNatClampNeg s1) (Int32.toInt64 s0)) := by
  refine (r_i2l (show decode (zb m_LL_book) 7 = .ok (.i2l, 1) from by decide +kernel)).trans ?_
  refine (r_last (show decode (zb m_LL_book) 8 = .ok (.lastore, 1) from by decide +kernel) h1 h2).trans ?_
  exact r_goto 15 (show decode (zb m_LL_book) 9 = .ok (.goto (6), 3) from by decide +kernel) rfl
theorem b_LL_book_13 {C : CF} {d : Nat} {σ : HP} {l0 : Option Value} {l1 : Option Value} {l2 : Option Value} {l3 : Option Value}  : runF C d m_LL_book (13, [l0, l1, l2, l3], [], σ) = some (.inl (some (.int (1 : Int32))), σ) := by
  refine (r_iconst (v := (1 : Int32)) (show decode (zb m_LL_book) 13 = .ok (.iconst (1), 1) from by decide +kernel) (by decide)).trans ?_
  exact r_iret (show decode (zb m_LL_book) 14 = .ok (.ireturn, 1) from by decide +kernel) rfl rfl
theorem b_LL_book_15 {C : CF} {d : Nat} {σ : HP} {l0 : Option Value} {l1 : Option Value} {l2 : Option Value} {l3 : Option Value}  : runF C d m_LL_book (15, [l0, l1, l2, l3], [], σ) = some (.inl (some (.int (0 : Int32))), σ) := by
  refine (r_iconst (v := (0 : Int32)) (show decode (zb m_LL_book) 15 = .ok (.iconst (0), 1) from by decide +kernel) (by decide)).trans ?_
  exact r_iret (show decode (zb m_LL_book) 16 = .ok (.ireturn, 1) from by decide +kernel) rfl rfl
theorem x_LL_book_1 {C : CF} {d : Nat} {σ : HP} {l0 l1 l2 l3 : Option Value} {rest : List Value} : bk C d m_LL_book 4 [l0, l1, l2, l3] rest (some (.inr 1, σ)) = runF C d m_LL_book (13, [l0, l1, l2, none], [], σ) := bk_hnd (q := 13) (k := 3) rfl (by decide +kernel) rfl
theorem e_LL_told {d : Nat} {σ : HP} {a0 : Nat} {x1 : Int32} {a2 : Nat} : callF (d + 1) m_LL_told [.ref a0, .int x1, .ref a2] σ = runF (callF d) d m_LL_told (0, [some (.ref a0), some (.int x1), some (.ref a2), none], [], σ) := callF_in rfl rfl
theorem b_LL_told_0 {C : CF} {d : Nat} {σ : HP} {a2 : Nat} {a0 : Nat} {x1 : Int32} {l3 : Option Value} (h1 : a0 % 64 = 11) : runF C d m_LL_told (0, [some (.ref a0), some (.int x1), some (.ref a2), l3], [], σ) = bk C d m_LL_told 4 [some (.ref a0), some (.int x1), some (.ref a2), l3] [.int ((0 : Int32)), .ref a2] (C m_PL_told [.ref a0, .int x1] σ) := by
  refine (r_aloadn 2 (show decode (zb m_LL_told) 0 = .ok (.aload_n 2, 1) from by decide +kernel) rfl).trans ?_
  refine (r_iconst (v := (0 : Int32)) (show decode (zb m_LL_told) 1 = .ok (.iconst (0), 1) from by decide +kernel) (by decide)).trans ?_
  refine (r_aloadn 0 (show decode (zb m_LL_told) 2 = .ok (.aload_n 0, 1) from by decide +kernel) rfl).trans ?_
  refine (r_iloadn 1 (show decode (zb m_LL_told) 3 = .ok (.iload_n 1, 1) from by decide +kernel) rfl).trans ?_
  exact r_virt (args := [.int x1]) (rest := [.int ((0 : Int32)), .ref a2]) (show decode (zb m_LL_told) 4 = .ok (.invokevirtual 24, 3) from by decide +kernel) rfl rfl rfl h1
theorem b_LL_told_7 {C : CF} {d : Nat} {σ : HP} {s0 : Int32} {s1 : Int32} {r2 : Nat} {l0 : Option Value} {l1 : Option Value} {l2 : Option Value} {l3 : Option Value} (h1 : aty (r2 % 64) = 2) (h2 : inR s1 (alen (r2 % 64)) = true) : runF C d m_LL_told (7, [l0, l1, l2, l3], [.int s0, .int s1, .ref r2], σ) = runF C d m_LL_told (15, [l0, l1, l2, l3], [], wJ σ r2 (Int32.toNatClampNeg s1) (Int32.toInt64 s0)) := by
  refine (r_i2l (show decode (zb m_LL_told) 7 = .ok (.i2l, 1) from by decide +kernel)).trans ?_
  refine (r_last (show decode (zb m_LL_told) 8 = .ok (.lastore, 1) from by decide +kernel) h1 h2).trans ?_
  exact r_goto 15 (show decode (zb m_LL_told) 9 = .ok (.goto (6), 3) from by decide +kernel) rfl
theorem b_LL_told_13 {C : CF} {d : Nat} {σ : HP} {l0 : Option Value} {l1 : Option Value} {l2 : Option Value} {l3 : Option Value}  : runF C d m_LL_told (13, [l0, l1, l2, l3], [], σ) = some (.inl (some (.int (1 : Int32))), σ) := by
  refine (r_iconst (v := (1 : Int32)) (show decode (zb m_LL_told) 13 = .ok (.iconst (1), 1) from by decide +kernel) (by decide)).trans ?_
  exact r_iret (show decode (zb m_LL_told) 14 = .ok (.ireturn, 1) from by decide +kernel) rfl rfl
theorem b_LL_told_15 {C : CF} {d : Nat} {σ : HP} {l0 : Option Value} {l1 : Option Value} {l2 : Option Value} {l3 : Option Value}  : runF C d m_LL_told (15, [l0, l1, l2, l3], [], σ) = some (.inl (some (.int (0 : Int32))), σ) := by
  refine (r_iconst (v := (0 : Int32)) (show decode (zb m_LL_told) 15 = .ok (.iconst (0), 1) from by decide +kernel) (by decide)).trans ?_
  exact r_iret (show decode (zb m_LL_told) 16 = .ok (.ireturn, 1) from by decide +kernel) rfl rfl
theorem x_LL_told_1 {C : CF} {d : Nat} {σ : HP} {l0 l1 l2 l3 : Option Value} {rest : List Value} : bk C d m_LL_told 4 [l0, l1, l2, l3] rest (some (.inr 1, σ)) = runF C d m_LL_told (13, [l0, l1, l2, none], [], σ) := bk_hnd (q := 13) (k := 3) rfl (by decide +kernel) rfl
theorem e_LL_man {d : Nat} {σ : HP} {a0 : Nat} {x1 : Int32} {x2 : Int32} {a3 : Nat} : callF (d + 1) m_LL_man [.ref a0, .int x1, .int x2, .ref a3] σ = runF (callF d) d m_LL_man (0, [some (.ref a0), some (.int x1), some (.int x2), some (.ref a3), none], [], σ) := callF_in rfl rfl
theorem b_LL_man_0 {C : CF} {d : Nat} {σ : HP} {a3 : Nat} {a0 : Nat} {x1 : Int32} {x2 : Int32} {l4 : Option Value} (h1 : a0 % 64 = 11) : runF C d m_LL_man (0, [some (.ref a0), some (.int x1), some (.int x2), some (.ref a3), l4], [], σ) = bk C d m_LL_man 5 [some (.ref a0), some (.int x1), some (.int x2), some (.ref a3), l4] [.int ((0 : Int32)), .ref a3] (C m_PL_man [.ref a0, .int x1, .int x2] σ) := by
  refine (r_aloadn 3 (show decode (zb m_LL_man) 0 = .ok (.aload_n 3, 1) from by decide +kernel) rfl).trans ?_
  refine (r_iconst (v := (0 : Int32)) (show decode (zb m_LL_man) 1 = .ok (.iconst (0), 1) from by decide +kernel) (by decide)).trans ?_
  refine (r_aloadn 0 (show decode (zb m_LL_man) 2 = .ok (.aload_n 0, 1) from by decide +kernel) rfl).trans ?_
  refine (r_iloadn 1 (show decode (zb m_LL_man) 3 = .ok (.iload_n 1, 1) from by decide +kernel) rfl).trans ?_
  refine (r_iloadn 2 (show decode (zb m_LL_man) 4 = .ok (.iload_n 2, 1) from by decide +kernel) rfl).trans ?_
  exact r_virt (args := [.int x1, .int x2]) (rest := [.int ((0 : Int32)), .ref a3]) (show decode (zb m_LL_man) 5 = .ok (.invokevirtual 27, 3) from by decide +kernel) rfl rfl rfl h1
theorem b_LL_man_8 {C : CF} {d : Nat} {σ : HP} {s0 : Int32} {s1 : Int32} {r2 : Nat} {l0 : Option Value} {l1 : Option Value} {l2 : Option Value} {l3 : Option Value} {l4 : Option Value} (h1 : aty (r2 % 64) = 2) (h2 : inR s1 (alen (r2 % 64)) = true) : runF C d m_LL_man (8, [l0, l1, l2, l3, l4], [.int s0, .int s1, .ref r2], σ) = runF C d m_LL_man (21, [l0, l1, l2, l3, l4], [], wJ σ r2 (Int32.toNatClampNeg s1) (Int32.toInt64 s0)) := by
  refine (r_i2l (show decode (zb m_LL_man) 8 = .ok (.i2l, 1) from by decide +kernel)).trans ?_
  refine (r_last (show decode (zb m_LL_man) 9 = .ok (.lastore, 1) from by decide +kernel) h1 h2).trans ?_
  exact r_goto 21 (show decode (zb m_LL_man) 10 = .ok (.goto (11), 3) from by decide +kernel) rfl
theorem b_LL_man_15 {C : CF} {d : Nat} {σ : HP} {l0 : Option Value} {l1 : Option Value} {l2 : Option Value} {l3 : Option Value} {l4 : Option Value}  : runF C d m_LL_man (15, [l0, l1, l2, l3, l4], [], σ) = some (.inl (some (.int (1 : Int32))), σ) := by
  refine (r_iconst (v := (1 : Int32)) (show decode (zb m_LL_man) 15 = .ok (.iconst (1), 1) from by decide +kernel) (by decide)).trans ?_
  exact r_iret (show decode (zb m_LL_man) 16 = .ok (.ireturn, 1) from by decide +kernel) rfl rfl
theorem b_LL_man_19 {C : CF} {d : Nat} {σ : HP} {l0 : Option Value} {l1 : Option Value} {l2 : Option Value} {l3 : Option Value} {l4 : Option Value}  : runF C d m_LL_man (19, [l0, l1, l2, l3, l4], [], σ) = some (.inl (some (.int (2 : Int32))), σ) := by
  refine (r_iconst (v := (2 : Int32)) (show decode (zb m_LL_man) 19 = .ok (.iconst (2), 1) from by decide +kernel) (by decide)).trans ?_
  exact r_iret (show decode (zb m_LL_man) 20 = .ok (.ireturn, 1) from by decide +kernel) rfl rfl
theorem b_LL_man_21 {C : CF} {d : Nat} {σ : HP} {l0 : Option Value} {l1 : Option Value} {l2 : Option Value} {l3 : Option Value} {l4 : Option Value}  : runF C d m_LL_man (21, [l0, l1, l2, l3, l4], [], σ) = some (.inl (some (.int (0 : Int32))), σ) := by
  refine (r_iconst (v := (0 : Int32)) (show decode (zb m_LL_man) 21 = .ok (.iconst (0), 1) from by decide +kernel) (by decide)).trans ?_
  exact r_iret (show decode (zb m_LL_man) 22 = .ok (.ireturn, 1) from by decide +kernel) rfl rfl
theorem x_LL_man_0 {C : CF} {d : Nat} {σ : HP} {l0 l1 l2 l3 l4 : Option Value} {rest : List Value} : bk C d m_LL_man 5 [l0, l1, l2, l3, l4] rest (some (.inr 0, σ)) = runF C d m_LL_man (15, [l0, l1, l2, l3, none], [], σ) := bk_hnd (q := 15) (k := 4) rfl (by decide +kernel) rfl
theorem x_LL_man_1 {C : CF} {d : Nat} {σ : HP} {l0 l1 l2 l3 l4 : Option Value} {rest : List Value} : bk C d m_LL_man 5 [l0, l1, l2, l3, l4] rest (some (.inr 1, σ)) = runF C d m_LL_man (19, [l0, l1, l2, l3, none], [], σ) := bk_hnd (q := 19) (k := 4) rfl (by decide +kernel) rfl
theorem e_LL_card {d : Nat} {σ : HP} {a0 : Nat} {x1 : Int32} {x2 : Int32} {a3 : Nat} : callF (d + 1) m_LL_card [.ref a0, .int x1, .int x2, .ref a3] σ = runF (callF d) d m_LL_card (0, [some (.ref a0), some (.int x1), some (.int x2), some (.ref a3), none], [], σ) := callF_in rfl rfl
theorem b_LL_card_0 {C : CF} {d : Nat} {σ : HP} {a3 : Nat} {a0 : Nat} {x1 : Int32} {x2 : Int32} {l4 : Option Value} (h1 : a0 % 64 = 11) : runF C d m_LL_card (0, [some (.ref a0), some (.int x1), some (.int x2), some (.ref a3), l4], [], σ) = bk C d m_LL_card 5 [some (.ref a0), some (.int x1), some (.int x2), some (.ref a3), l4] [.int ((0 : Int32)), .ref a3] (C m_PL_card [.ref a0, .int x1, .int x2] σ) := by
  refine (r_aloadn 3 (show decode (zb m_LL_card) 0 = .ok (.aload_n 3, 1) from by decide +kernel) rfl).trans ?_
  refine (r_iconst (v := (0 : Int32)) (show decode (zb m_LL_card) 1 = .ok (.iconst (0), 1) from by decide +kernel) (by decide)).trans ?_
  refine (r_aloadn 0 (show decode (zb m_LL_card) 2 = .ok (.aload_n 0, 1) from by decide +kernel) rfl).trans ?_
  refine (r_iloadn 1 (show decode (zb m_LL_card) 3 = .ok (.iload_n 1, 1) from by decide +kernel) rfl).trans ?_
  refine (r_iloadn 2 (show decode (zb m_LL_card) 4 = .ok (.iload_n 2, 1) from by decide +kernel) rfl).trans ?_
  exact r_virt (args := [.int x1, .int x2]) (rest := [.int ((0 : Int32)), .ref a3]) (show decode (zb m_LL_card) 5 = .ok (.invokevirtual 33, 3) from by decide +kernel) rfl rfl rfl h1
theorem b_LL_card_8 {C : CF} {d : Nat} {σ : HP} {s0 : Int32} {s1 : Int32} {r2 : Nat} {l0 : Option Value} {l1 : Option Value} {l2 : Option Value} {l3 : Option Value} {l4 : Option Value} (h1 : aty (r2 % 64) = 2) (h2 : inR s1 (alen (r2 % 64)) = true) : runF C d m_LL_card (8, [l0, l1, l2, l3, l4], [.int s0, .int s1, .ref r2], σ) = runF C d m_LL_card (21, [l0, l1, l2, l3, l4], [], wJ σ r2 (Int32.toNatClampNeg s1) (Int32.toInt64 s0)) := by
  refine (r_i2l (show decode (zb m_LL_card) 8 = .ok (.i2l, 1) from by decide +kernel)).trans ?_
  refine (r_last (show decode (zb m_LL_card) 9 = .ok (.lastore, 1) from by decide +kernel) h1 h2).trans ?_
  exact r_goto 21 (show decode (zb m_LL_card) 10 = .ok (.goto (11), 3) from by decide +kernel) rfl
theorem b_LL_card_15 {C : CF} {d : Nat} {σ : HP} {l0 : Option Value} {l1 : Option Value} {l2 : Option Value} {l3 : Option Value} {l4 : Option Value}  : runF C d m_LL_card (15, [l0, l1, l2, l3, l4], [], σ) = some (.inl (some (.int (1 : Int32))), σ) := by
  refine (r_iconst (v := (1 : Int32)) (show decode (zb m_LL_card) 15 = .ok (.iconst (1), 1) from by decide +kernel) (by decide)).trans ?_
  exact r_iret (show decode (zb m_LL_card) 16 = .ok (.ireturn, 1) from by decide +kernel) rfl rfl
theorem b_LL_card_19 {C : CF} {d : Nat} {σ : HP} {l0 : Option Value} {l1 : Option Value} {l2 : Option Value} {l3 : Option Value} {l4 : Option Value}  : runF C d m_LL_card (19, [l0, l1, l2, l3, l4], [], σ) = some (.inl (some (.int (2 : Int32))), σ) := by
  refine (r_iconst (v := (2 : Int32)) (show decode (zb m_LL_card) 19 = .ok (.iconst (2), 1) from by decide +kernel) (by decide)).trans ?_
  exact r_iret (show decode (zb m_LL_card) 20 = .ok (.ireturn, 1) from by decide +kernel) rfl rfl
theorem b_LL_card_21 {C : CF} {d : Nat} {σ : HP} {l0 : Option Value} {l1 : Option Value} {l2 : Option Value} {l3 : Option Value} {l4 : Option Value}  : runF C d m_LL_card (21, [l0, l1, l2, l3, l4], [], σ) = some (.inl (some (.int (0 : Int32))), σ) := by
  refine (r_iconst (v := (0 : Int32)) (show decode (zb m_LL_card) 21 = .ok (.iconst (0), 1) from by decide +kernel) (by decide)).trans ?_
  exact r_iret (show decode (zb m_LL_card) 22 = .ok (.ireturn, 1) from by decide +kernel) rfl rfl
theorem x_LL_card_0 {C : CF} {d : Nat} {σ : HP} {l0 l1 l2 l3 l4 : Option Value} {rest : List Value} : bk C d m_LL_card 5 [l0, l1, l2, l3, l4] rest (some (.inr 0, σ)) = runF C d m_LL_card (15, [l0, l1, l2, l3, none], [], σ) := bk_hnd (q := 15) (k := 4) rfl (by decide +kernel) rfl
theorem x_LL_card_1 {C : CF} {d : Nat} {σ : HP} {l0 l1 l2 l3 l4 : Option Value} {rest : List Value} : bk C d m_LL_card 5 [l0, l1, l2, l3, l4] rest (some (.inr 1, σ)) = runF C d m_LL_card (19, [l0, l1, l2, l3, none], [], σ) := bk_hnd (q := 19) (k := 4) rfl (by decide +kernel) rfl
theorem e_LL_heard {d : Nat} {σ : HP} {a0 : Nat} {x1 : Int32} {x2 : Int32} {a3 : Nat} : callF (d + 1) m_LL_heard [.ref a0, .int x1, .int x2, .ref a3] σ = runF (callF d) d m_LL_heard (0, [some (.ref a0), some (.int x1), some (.int x2), some (.ref a3), none], [], σ) := callF_in rfl rfl
theorem b_LL_heard_0 {C : CF} {d : Nat} {σ : HP} {a3 : Nat} {a0 : Nat} {x1 : Int32} {x2 : Int32} {l4 : Option Value} (h1 : a0 % 64 = 11) : runF C d m_LL_heard (0, [some (.ref a0), some (.int x1), some (.int x2), some (.ref a3), l4], [], σ) = bk C d m_LL_heard 5 [some (.ref a0), some (.int x1), some (.int x2), some (.ref a3), l4] [.int ((0 : Int32)), .ref a3] (C m_PL_heard [.ref a0, .int x1, .int x2] σ) := by
  refine (r_aloadn 3 (show decode (zb m_LL_heard) 0 = .ok (.aload_n 3, 1) from by decide +kernel) rfl).trans ?_
  refine (r_iconst (v := (0 : Int32)) (show decode (zb m_LL_heard) 1 = .ok (.iconst (0), 1) from by decide +kernel) (by decide)).trans ?_
  refine (r_aloadn 0 (show decode (zb m_LL_heard) 2 = .ok (.aload_n 0, 1) from by decide +kernel) rfl).trans ?_
  refine (r_iloadn 1 (show decode (zb m_LL_heard) 3 = .ok (.iload_n 1, 1) from by decide +kernel) rfl).trans ?_
  refine (r_iloadn 2 (show decode (zb m_LL_heard) 4 = .ok (.iload_n 2, 1) from by decide +kernel) rfl).trans ?_
  exact r_virt (args := [.int x1, .int x2]) (rest := [.int ((0 : Int32)), .ref a3]) (show decode (zb m_LL_heard) 5 = .ok (.invokevirtual 36, 3) from by decide +kernel) rfl rfl rfl h1
theorem b_LL_heard_8 {C : CF} {d : Nat} {σ : HP} {s0 : Int32} {s1 : Int32} {r2 : Nat} {l0 : Option Value} {l1 : Option Value} {l2 : Option Value} {l3 : Option Value} {l4 : Option Value} (h1 : aty (r2 % 64) = 2) (h2 : inR s1 (alen (r2 % 64)) = true) : runF C d m_LL_heard (8, [l0, l1, l2, l3, l4], [.int s0, .int s1, .ref r2], σ) = runF C d m_LL_heard (17, [l0, l1, l2, l3, l4], [], wJ σ r2 (Int32.toNatClampNeg s1) (Int32.toInt64 s0)) := by
  refine (r_i2l (show decode (zb m_LL_heard) 8 = .ok (.i2l, 1) from by decide +kernel)).trans ?_
  refine (r_last (show decode (zb m_LL_heard) 9 = .ok (.lastore, 1) from by decide +kernel) h1 h2).trans ?_
  exact r_goto 17 (show decode (zb m_LL_heard) 10 = .ok (.goto (7), 3) from by decide +kernel) rfl
theorem b_LL_heard_15 {C : CF} {d : Nat} {σ : HP} {l0 : Option Value} {l1 : Option Value} {l2 : Option Value} {l3 : Option Value} {l4 : Option Value}  : runF C d m_LL_heard (15, [l0, l1, l2, l3, l4], [], σ) = some (.inl (some (.int (1 : Int32))), σ) := by
  refine (r_iconst (v := (1 : Int32)) (show decode (zb m_LL_heard) 15 = .ok (.iconst (1), 1) from by decide +kernel) (by decide)).trans ?_
  exact r_iret (show decode (zb m_LL_heard) 16 = .ok (.ireturn, 1) from by decide +kernel) rfl rfl
theorem b_LL_heard_17 {C : CF} {d : Nat} {σ : HP} {l0 : Option Value} {l1 : Option Value} {l2 : Option Value} {l3 : Option Value} {l4 : Option Value}  : runF C d m_LL_heard (17, [l0, l1, l2, l3, l4], [], σ) = some (.inl (some (.int (0 : Int32))), σ) := by
  refine (r_iconst (v := (0 : Int32)) (show decode (zb m_LL_heard) 17 = .ok (.iconst (0), 1) from by decide +kernel) (by decide)).trans ?_
  exact r_iret (show decode (zb m_LL_heard) 18 = .ok (.ireturn, 1) from by decide +kernel) rfl rfl
theorem x_LL_heard_0 {C : CF} {d : Nat} {σ : HP} {l0 l1 l2 l3 l4 : Option Value} {rest : List Value} : bk C d m_LL_heard 5 [l0, l1, l2, l3, l4] rest (some (.inr 0, σ)) = runF C d m_LL_heard (15, [l0, l1, l2, l3, none], [], σ) := bk_hnd (q := 15) (k := 4) rfl (by decide +kernel) rfl
theorem e_LL_swells {d : Nat} {σ : HP} {a0 : Nat} {x1 : Int32} {x2 : Int32} {a3 : Nat} : callF (d + 1) m_LL_swells [.ref a0, .int x1, .int x2, .ref a3] σ = runF (callF d) d m_LL_swells (0, [some (.ref a0), some (.int x1), some (.int x2), some (.ref a3), none], [], σ) := callF_in rfl rfl
theorem b_LL_swells_0 {C : CF} {d : Nat} {σ : HP} {a3 : Nat} {a0 : Nat} {x1 : Int32} {x2 : Int32} {l4 : Option Value} (h1 : a0 % 64 = 11) : runF C d m_LL_swells (0, [some (.ref a0), some (.int x1), some (.int x2), some (.ref a3), l4], [], σ) = bk C d m_LL_swells 5 [some (.ref a0), some (.int x1), some (.int x2), some (.ref a3), l4] [.int ((0 : Int32)), .ref a3] (C m_PL_swells [.ref a0, .int x1, .int x2] σ) := by
  refine (r_aloadn 3 (show decode (zb m_LL_swells) 0 = .ok (.aload_n 3, 1) from by decide +kernel) rfl).trans ?_
  refine (r_iconst (v := (0 : Int32)) (show decode (zb m_LL_swells) 1 = .ok (.iconst (0), 1) from by decide +kernel) (by decide)).trans ?_
  refine (r_aloadn 0 (show decode (zb m_LL_swells) 2 = .ok (.aload_n 0, 1) from by decide +kernel) rfl).trans ?_
  refine (r_iloadn 1 (show decode (zb m_LL_swells) 3 = .ok (.iload_n 1, 1) from by decide +kernel) rfl).trans ?_
  refine (r_iloadn 2 (show decode (zb m_LL_swells) 4 = .ok (.iload_n 2, 1) from by decide +kernel) rfl).trans ?_
  exact r_virt (args := [.int x1, .int x2]) (rest := [.int ((0 : Int32)), .ref a3]) (show decode (zb m_LL_swells) 5 = .ok (.invokevirtual 39, 3) from by decide +kernel) rfl rfl rfl h1
theorem b_LL_swells_8 {C : CF} {d : Nat} {σ : HP} {s0 : Int32} {s1 : Int32} {r2 : Nat} {l0 : Option Value} {l1 : Option Value} {l2 : Option Value} {l3 : Option Value} {l4 : Option Value} (h1 : aty (r2 % 64) = 2) (h2 : inR s1 (alen (r2 % 64)) = true) : runF C d m_LL_swells (8, [l0, l1, l2, l3, l4], [.int s0, .int s1, .ref r2], σ) = runF C d m_LL_swells (17, [l0, l1, l2, l3, l4], [], wJ σ r2 (Int32.toNatClampNeg s1) (Int32.toInt64 s0)) := by
  refine (r_i2l (show decode (zb m_LL_swells) 8 = .ok (.i2l, 1) from by decide +kernel)).trans ?_
  refine (r_last (show decode (zb m_LL_swells) 9 = .ok (.lastore, 1) from by decide +kernel) h1 h2).trans ?_
  exact r_goto 17 (show decode (zb m_LL_swells) 10 = .ok (.goto (7), 3) from by decide +kernel) rfl
theorem b_LL_swells_15 {C : CF} {d : Nat} {σ : HP} {l0 : Option Value} {l1 : Option Value} {l2 : Option Value} {l3 : Option Value} {l4 : Option Value}  : runF C d m_LL_swells (15, [l0, l1, l2, l3, l4], [], σ) = some (.inl (some (.int (1 : Int32))), σ) := by
  refine (r_iconst (v := (1 : Int32)) (show decode (zb m_LL_swells) 15 = .ok (.iconst (1), 1) from by decide +kernel) (by decide)).trans ?_
  exact r_iret (show decode (zb m_LL_swells) 16 = .ok (.ireturn, 1) from by decide +kernel) rfl rfl
theorem b_LL_swells_17 {C : CF} {d : Nat} {σ : HP} {l0 : Option Value} {l1 : Option Value} {l2 : Option Value} {l3 : Option Value} {l4 : Option Value}  : runF C d m_LL_swells (17, [l0, l1, l2, l3, l4], [], σ) = some (.inl (some (.int (0 : Int32))), σ) := by
  refine (r_iconst (v := (0 : Int32)) (show decode (zb m_LL_swells) 17 = .ok (.iconst (0), 1) from by decide +kernel) (by decide)).trans ?_
  exact r_iret (show decode (zb m_LL_swells) 18 = .ok (.ireturn, 1) from by decide +kernel) rfl rfl
theorem x_LL_swells_0 {C : CF} {d : Nat} {σ : HP} {l0 l1 l2 l3 l4 : Option Value} {rest : List Value} : bk C d m_LL_swells 5 [l0, l1, l2, l3, l4] rest (some (.inr 0, σ)) = runF C d m_LL_swells (15, [l0, l1, l2, l3, none], [], σ) := bk_hnd (q := 15) (k := 4) rfl (by decide +kernel) rfl
theorem e_LL_would {d : Nat} {σ : HP} {a0 : Nat} {x1 : Int32} {x2 : Int32} {x3 : Int32} {x4 : Int32} {x5 : Int32} {x6 : Int32} {x7 : Int32} {x8 : Int32} {x9 : Int32} {a10 : Nat} : callF (d + 1) m_LL_would [.ref a0, .int x1, .int x2, .int x3, .int x4, .int x5, .int x6, .int x7, .int x8, .int x9, .ref a10] σ = runF (callF d) d m_LL_would (0, [some (.ref a0), some (.int x1), some (.int x2), some (.int x3), some (.int x4), some (.int x5), some (.int x6), some (.int x7), some (.int x8), some (.int x9), some (.ref a10), none], [], σ) := callF_in rfl rfl
theorem b_LL_would_0 {C : CF} {d : Nat} {σ : HP} {a10 : Nat} {a0 : Nat} {x1 : Int32} {x2 : Int32} {x3 : Int32} {x4 : Int32} {x5 : Int32} {x6 : Int32} {x7 : Int32} {x8 : Int32} {x9 : Int32} {l11 : Option Value} (h1 : a0 % 64 = 11) : runF C d m_LL_would (0, [some (.ref a0), some (.int x1), some (.int x2), some (.int x3), some (.int x4), some (.int x5), some (.int x6), some (.int x7), some (.int x8), some (.int x9), some (.ref a10), l11], [], σ) = bk C d m_LL_would 19 [some (.ref a0), some (.int x1), some (.int x2), some (.int x3), some (.int x4), some (.int x5), some (.int x6), some (.int x7), some (.int x8), some (.int x9), some (.ref a10), l11] [.int ((0 : Int32)), .ref a10] (C m_PL_would [.ref a0, .int x1, .int x2, .int x3, .int x4, .int x5, .int x6, .int x7, .int x8, .int x9] σ) := by
  refine (r_aload 10 (show decode (zb m_LL_would) 0 = .ok (.aload 10, 2) from by decide +kernel) rfl).trans ?_
  refine (r_iconst (v := (0 : Int32)) (show decode (zb m_LL_would) 2 = .ok (.iconst (0), 1) from by decide +kernel) (by decide)).trans ?_
  refine (r_aloadn 0 (show decode (zb m_LL_would) 3 = .ok (.aload_n 0, 1) from by decide +kernel) rfl).trans ?_
  refine (r_iloadn 1 (show decode (zb m_LL_would) 4 = .ok (.iload_n 1, 1) from by decide +kernel) rfl).trans ?_
  refine (r_iloadn 2 (show decode (zb m_LL_would) 5 = .ok (.iload_n 2, 1) from by decide +kernel) rfl).trans ?_
  refine (r_iloadn 3 (show decode (zb m_LL_would) 6 = .ok (.iload_n 3, 1) from by decide +kernel) rfl).trans ?_
  refine (r_iload 4 (show decode (zb m_LL_would) 7 = .ok (.iload 4, 2) from by decide +kernel) rfl).trans ?_
  refine (r_iload 5 (show decode (zb m_LL_would) 9 = .ok (.iload 5, 2) from by decide +kernel) rfl).trans ?_
  refine (r_iload 6 (show decode (zb m_LL_would) 11 = .ok (.iload 6, 2) from by decide +kernel) rfl).trans ?_
  refine (r_iload 7 (show decode (zb m_LL_would) 13 = .ok (.iload 7, 2) from by decide +kernel) rfl).trans ?_
  refine (r_iload 8 (show decode (zb m_LL_would) 15 = .ok (.iload 8, 2) from by decide +kernel) rfl).trans ?_
  refine (r_iload 9 (show decode (zb m_LL_would) 17 = .ok (.iload 9, 2) from by decide +kernel) rfl).trans ?_
  exact r_virt (args := [.int x1, .int x2, .int x3, .int x4, .int x5, .int x6, .int x7, .int x8, .int x9]) (rest := [.int ((0 : Int32)), .ref a10]) (show decode (zb m_LL_would) 19 = .ok (.invokevirtual 42, 3) from by decide +kernel) rfl rfl rfl h1
theorem b_LL_would_22 {C : CF} {d : Nat} {σ : HP} {s0 : Int32} {s1 : Int32} {r2 : Nat} {l0 : Option Value} {l1 : Option Value} {l2 : Option Value} {l3 : Option Value} {l4 : Option Value} {l5 : Option Value} {l6 : Option Value} {l7 : Option Value} {l8 : Option Value} {l9 : Option Value} {l10 : Option Value} {l11 : Option Value} (h1 : aty (r2 % 64) = 2) (h2 : inR s1 (alen (r2 % 64)) = true) : runF C d m_LL_would (22, [l0, l1, l2, l3, l4, l5, l6, l7, l8, l9, l10, l11], [.int s0, .int s1, .ref r2], σ) = runF C d m_LL_would (31, [l0, l1, l2, l3, l4, l5, l6, l7, l8, l9, l10, l11], [], wJ σ r2 (Int32.toNatClampNeg s1) (Int32.toInt64 s0)) := by
  refine (r_i2l (show decode (zb m_LL_would) 22 = .ok (.i2l, 1) from by decide +kernel)).trans ?_
  refine (r_last (show decode (zb m_LL_would) 23 = .ok (.lastore, 1) from by decide +kernel) h1 h2).trans ?_
  exact r_goto 31 (show decode (zb m_LL_would) 24 = .ok (.goto (7), 3) from by decide +kernel) rfl
theorem b_LL_would_29 {C : CF} {d : Nat} {σ : HP} {l0 : Option Value} {l1 : Option Value} {l2 : Option Value} {l3 : Option Value} {l4 : Option Value} {l5 : Option Value} {l6 : Option Value} {l7 : Option Value} {l8 : Option Value} {l9 : Option Value} {l10 : Option Value} {l11 : Option Value}  : runF C d m_LL_would (29, [l0, l1, l2, l3, l4, l5, l6, l7, l8, l9, l10, l11], [], σ) = some (.inl (some (.int (1 : Int32))), σ) := by
  refine (r_iconst (v := (1 : Int32)) (show decode (zb m_LL_would) 29 = .ok (.iconst (1), 1) from by decide +kernel) (by decide)).trans ?_
  exact r_iret (show decode (zb m_LL_would) 30 = .ok (.ireturn, 1) from by decide +kernel) rfl rfl
theorem b_LL_would_31 {C : CF} {d : Nat} {σ : HP} {l0 : Option Value} {l1 : Option Value} {l2 : Option Value} {l3 : Option Value} {l4 : Option Value} {l5 : Option Value} {l6 : Option Value} {l7 : Option Value} {l8 : Option Value} {l9 : Option Value} {l10 : Option Value} {l11 : Option Value}  : runF C d m_LL_would (31, [l0, l1, l2, l3, l4, l5, l6, l7, l8, l9, l10, l11], [], σ) = some (.inl (some (.int (0 : Int32))), σ) := by
  refine (r_iconst (v := (0 : Int32)) (show decode (zb m_LL_would) 31 = .ok (.iconst (0), 1) from by decide +kernel) (by decide)).trans ?_
  exact r_iret (show decode (zb m_LL_would) 32 = .ok (.ireturn, 1) from by decide +kernel) rfl rfl
theorem x_LL_would_1 {C : CF} {d : Nat} {σ : HP} {l0 l1 l2 l3 l4 l5 l6 l7 l8 l9 l10 l11 : Option Value} {rest : List Value} : bk C d m_LL_would 19 [l0, l1, l2, l3, l4, l5, l6, l7, l8, l9, l10, l11] rest (some (.inr 1, σ)) = runF C d m_LL_would (29, [l0, l1, l2, l3, l4, l5, l6, l7, l8, l9, l10, none], [], σ) := bk_hnd (q := 29) (k := 11) rfl (by decide +kernel) rfl
theorem e_LL_ahead {d : Nat} {σ : HP} {a0 : Nat} {x1 : Int32} {x2 : Int32} {a3 : Nat} : callF (d + 1) m_LL_ahead [.ref a0, .int x1, .int x2, .ref a3] σ = runF (callF d) d m_LL_ahead (0, [some (.ref a0), some (.int x1), some (.int x2), some (.ref a3), none], [], σ) := callF_in rfl rfl
theorem b_LL_ahead_0 {C : CF} {d : Nat} {σ : HP} {a3 : Nat} {a0 : Nat} {x1 : Int32} {x2 : Int32} {l4 : Option Value} (h1 : a0 % 64 = 11) : runF C d m_LL_ahead (0, [some (.ref a0), some (.int x1), some (.int x2), some (.ref a3), l4], [], σ) = bk C d m_LL_ahead 5 [some (.ref a0), some (.int x1), some (.int x2), some (.ref a3), l4] [.int ((0 : Int32)), .ref a3] (C m_PL_ahead [.ref a0, .int x1, .int x2] σ) := by
  refine (r_aloadn 3 (show decode (zb m_LL_ahead) 0 = .ok (.aload_n 3, 1) from by decide +kernel) rfl).trans ?_
  refine (r_iconst (v := (0 : Int32)) (show decode (zb m_LL_ahead) 1 = .ok (.iconst (0), 1) from by decide +kernel) (by decide)).trans ?_
  refine (r_aloadn 0 (show decode (zb m_LL_ahead) 2 = .ok (.aload_n 0, 1) from by decide +kernel) rfl).trans ?_
  refine (r_iloadn 1 (show decode (zb m_LL_ahead) 3 = .ok (.iload_n 1, 1) from by decide +kernel) rfl).trans ?_
  refine (r_iloadn 2 (show decode (zb m_LL_ahead) 4 = .ok (.iload_n 2, 1) from by decide +kernel) rfl).trans ?_
  exact r_virt (args := [.int x1, .int x2]) (rest := [.int ((0 : Int32)), .ref a3]) (show decode (zb m_LL_ahead) 5 = .ok (.invokevirtual 46, 3) from by decide +kernel) rfl rfl rfl h1
theorem b_LL_ahead_8 {C : CF} {d : Nat} {σ : HP} {s0 : Int32} {s1 : Int32} {r2 : Nat} {l0 : Option Value} {l1 : Option Value} {l2 : Option Value} {l3 : Option Value} {l4 : Option Value} (h1 : aty (r2 % 64) = 2) (h2 : inR s1 (alen (r2 % 64)) = true) : runF C d m_LL_ahead (8, [l0, l1, l2, l3, l4], [.int s0, .int s1, .ref r2], σ) = runF C d m_LL_ahead (17, [l0, l1, l2, l3, l4], [], wJ σ r2 (Int32.toNatClampNeg s1) (Int32.toInt64 s0)) := by
  refine (r_i2l (show decode (zb m_LL_ahead) 8 = .ok (.i2l, 1) from by decide +kernel)).trans ?_
  refine (r_last (show decode (zb m_LL_ahead) 9 = .ok (.lastore, 1) from by decide +kernel) h1 h2).trans ?_
  exact r_goto 17 (show decode (zb m_LL_ahead) 10 = .ok (.goto (7), 3) from by decide +kernel) rfl
theorem b_LL_ahead_15 {C : CF} {d : Nat} {σ : HP} {l0 : Option Value} {l1 : Option Value} {l2 : Option Value} {l3 : Option Value} {l4 : Option Value}  : runF C d m_LL_ahead (15, [l0, l1, l2, l3, l4], [], σ) = some (.inl (some (.int (1 : Int32))), σ) := by
  refine (r_iconst (v := (1 : Int32)) (show decode (zb m_LL_ahead) 15 = .ok (.iconst (1), 1) from by decide +kernel) (by decide)).trans ?_
  exact r_iret (show decode (zb m_LL_ahead) 16 = .ok (.ireturn, 1) from by decide +kernel) rfl rfl
theorem b_LL_ahead_17 {C : CF} {d : Nat} {σ : HP} {l0 : Option Value} {l1 : Option Value} {l2 : Option Value} {l3 : Option Value} {l4 : Option Value}  : runF C d m_LL_ahead (17, [l0, l1, l2, l3, l4], [], σ) = some (.inl (some (.int (0 : Int32))), σ) := by
  refine (r_iconst (v := (0 : Int32)) (show decode (zb m_LL_ahead) 17 = .ok (.iconst (0), 1) from by decide +kernel) (by decide)).trans ?_
  exact r_iret (show decode (zb m_LL_ahead) 18 = .ok (.ireturn, 1) from by decide +kernel) rfl rfl
theorem x_LL_ahead_1 {C : CF} {d : Nat} {σ : HP} {l0 l1 l2 l3 l4 : Option Value} {rest : List Value} : bk C d m_LL_ahead 5 [l0, l1, l2, l3, l4] rest (some (.inr 1, σ)) = runF C d m_LL_ahead (15, [l0, l1, l2, l3, none], [], σ) := bk_hnd (q := 15) (k := 4) rfl (by decide +kernel) rfl
theorem e_LL_to {d : Nat} {σ : HP} {a0 : Nat} {x1 : Int32} {a2 : Nat} : callF (d + 1) m_LL_to [.ref a0, .int x1, .ref a2] σ = runF (callF d) d m_LL_to (0, [some (.ref a0), some (.int x1), some (.ref a2), none], [], σ) := callF_in rfl rfl
theorem b_LL_to_0 {C : CF} {d : Nat} {σ : HP} {a2 : Nat} {a0 : Nat} {x1 : Int32} {l3 : Option Value} (h1 : a0 % 64 = 11) : runF C d m_LL_to (0, [some (.ref a0), some (.int x1), some (.ref a2), l3], [], σ) = bk C d m_LL_to 4 [some (.ref a0), some (.int x1), some (.ref a2), l3] [.int ((0 : Int32)), .ref a2] (C m_PL_to [.ref a0, .int x1] σ) := by
  refine (r_aloadn 2 (show decode (zb m_LL_to) 0 = .ok (.aload_n 2, 1) from by decide +kernel) rfl).trans ?_
  refine (r_iconst (v := (0 : Int32)) (show decode (zb m_LL_to) 1 = .ok (.iconst (0), 1) from by decide +kernel) (by decide)).trans ?_
  refine (r_aloadn 0 (show decode (zb m_LL_to) 2 = .ok (.aload_n 0, 1) from by decide +kernel) rfl).trans ?_
  refine (r_iloadn 1 (show decode (zb m_LL_to) 3 = .ok (.iload_n 1, 1) from by decide +kernel) rfl).trans ?_
  exact r_virt (args := [.int x1]) (rest := [.int ((0 : Int32)), .ref a2]) (show decode (zb m_LL_to) 4 = .ok (.invokevirtual 49, 3) from by decide +kernel) rfl rfl rfl h1
theorem b_LL_to_7 {C : CF} {d : Nat} {σ : HP} {s0 : Int32} {s1 : Int32} {r2 : Nat} {l0 : Option Value} {l1 : Option Value} {l2 : Option Value} {l3 : Option Value} (h1 : aty (r2 % 64) = 2) (h2 : inR s1 (alen (r2 % 64)) = true) : runF C d m_LL_to (7, [l0, l1, l2, l3], [.int s0, .int s1, .ref r2], σ) = runF C d m_LL_to (15, [l0, l1, l2, l3], [], wJ σ r2 (Int32.toNatClampNeg s1) (Int32.toInt64 s0)) := by
  refine (r_i2l (show decode (zb m_LL_to) 7 = .ok (.i2l, 1) from by decide +kernel)).trans ?_
  refine (r_last (show decode (zb m_LL_to) 8 = .ok (.lastore, 1) from by decide +kernel) h1 h2).trans ?_
  exact r_goto 15 (show decode (zb m_LL_to) 9 = .ok (.goto (6), 3) from by decide +kernel) rfl
theorem b_LL_to_13 {C : CF} {d : Nat} {σ : HP} {l0 : Option Value} {l1 : Option Value} {l2 : Option Value} {l3 : Option Value}  : runF C d m_LL_to (13, [l0, l1, l2, l3], [], σ) = some (.inl (some (.int (1 : Int32))), σ) := by
  refine (r_iconst (v := (1 : Int32)) (show decode (zb m_LL_to) 13 = .ok (.iconst (1), 1) from by decide +kernel) (by decide)).trans ?_
  exact r_iret (show decode (zb m_LL_to) 14 = .ok (.ireturn, 1) from by decide +kernel) rfl rfl
theorem b_LL_to_15 {C : CF} {d : Nat} {σ : HP} {l0 : Option Value} {l1 : Option Value} {l2 : Option Value} {l3 : Option Value}  : runF C d m_LL_to (15, [l0, l1, l2, l3], [], σ) = some (.inl (some (.int (0 : Int32))), σ) := by
  refine (r_iconst (v := (0 : Int32)) (show decode (zb m_LL_to) 15 = .ok (.iconst (0), 1) from by decide +kernel) (by decide)).trans ?_
  exact r_iret (show decode (zb m_LL_to) 16 = .ok (.ireturn, 1) from by decide +kernel) rfl rfl
theorem x_LL_to_1 {C : CF} {d : Nat} {σ : HP} {l0 l1 l2 l3 : Option Value} {rest : List Value} : bk C d m_LL_to 4 [l0, l1, l2, l3] rest (some (.inr 1, σ)) = runF C d m_LL_to (13, [l0, l1, l2, none], [], σ) := bk_hnd (q := 13) (k := 3) rfl (by decide +kernel) rfl
theorem e_LL_couple {d : Nat} {σ : HP} {a0 : Nat} {x1 : Int32} {a2 : Nat} : callF (d + 1) m_LL_couple [.ref a0, .int x1, .ref a2] σ = runF (callF d) d m_LL_couple (0, [some (.ref a0), some (.int x1), some (.ref a2), none], [], σ) := callF_in rfl rfl
theorem b_LL_couple_0 {C : CF} {d : Nat} {σ : HP} {a2 : Nat} {a0 : Nat} {x1 : Int32} {l3 : Option Value} (h1 : a0 % 64 = 11) : runF C d m_LL_couple (0, [some (.ref a0), some (.int x1), some (.ref a2), l3], [], σ) = bk C d m_LL_couple 4 [some (.ref a0), some (.int x1), some (.ref a2), l3] [.int ((0 : Int32)), .ref a2] (C m_PL_couple [.ref a0, .int x1] σ) := by
  refine (r_aloadn 2 (show decode (zb m_LL_couple) 0 = .ok (.aload_n 2, 1) from by decide +kernel) rfl).trans ?_
  refine (r_iconst (v := (0 : Int32)) (show decode (zb m_LL_couple) 1 = .ok (.iconst (0), 1) from by decide +kernel) (by decide)).trans ?_
  refine (r_aloadn 0 (show decode (zb m_LL_couple) 2 = .ok (.aload_n 0, 1) from by decide +kernel) rfl).trans ?_
  refine (r_iloadn 1 (show decode (zb m_LL_couple) 3 = .ok (.iload_n 1, 1) from by decide +kernel) rfl).trans ?_
  exact r_virt (args := [.int x1]) (rest := [.int ((0 : Int32)), .ref a2]) (show decode (zb m_LL_couple) 4 = .ok (.invokevirtual 52, 3) from by decide +kernel) rfl rfl rfl h1
theorem b_LL_couple_7 {C : CF} {d : Nat} {σ : HP} {s0 : Int32} {s1 : Int32} {r2 : Nat} {l0 : Option Value} {l1 : Option Value} {l2 : Option Value} {l3 : Option Value} (h1 : aty (r2 % 64) = 2) (h2 : inR s1 (alen (r2 % 64)) = true) : runF C d m_LL_couple (7, [l0, l1, l2, l3], [.int s0, .int s1, .ref r2], σ) = runF C d m_LL_couple (15, [l0, l1, l2, l3], [], wJ σ r2 (Int32.toNatClampNeg s1) (Int32.toInt64 s0)) := by
  refine (r_i2l (show decode (zb m_LL_couple) 7 = .ok (.i2l, 1) from by decide +kernel)).trans ?_
  refine (r_last (show decode (zb m_LL_couple) 8 = .ok (.lastore, 1) from by decide +kernel) h1 h2).trans ?_
  exact r_goto 15 (show decode (zb m_LL_couple) 9 = .ok (.goto (6), 3) from by decide +kernel) rfl
theorem b_LL_couple_13 {C : CF} {d : Nat} {σ : HP} {l0 : Option Value} {l1 : Option Value} {l2 : Option Value} {l3 : Option Value}  : runF C d m_LL_couple (13, [l0, l1, l2, l3], [], σ) = some (.inl (some (.int (1 : Int32))), σ) := by
  refine (r_iconst (v := (1 : Int32)) (show decode (zb m_LL_couple) 13 = .ok (.iconst (1), 1) from by decide +kernel) (by decide)).trans ?_
  exact r_iret (show decode (zb m_LL_couple) 14 = .ok (.ireturn, 1) from by decide +kernel) rfl rfl
theorem b_LL_couple_15 {C : CF} {d : Nat} {σ : HP} {l0 : Option Value} {l1 : Option Value} {l2 : Option Value} {l3 : Option Value}  : runF C d m_LL_couple (15, [l0, l1, l2, l3], [], σ) = some (.inl (some (.int (0 : Int32))), σ) := by
  refine (r_iconst (v := (0 : Int32)) (show decode (zb m_LL_couple) 15 = .ok (.iconst (0), 1) from by decide +kernel) (by decide)).trans ?_
  exact r_iret (show decode (zb m_LL_couple) 16 = .ok (.ireturn, 1) from by decide +kernel) rfl rfl
theorem x_LL_couple_1 {C : CF} {d : Nat} {σ : HP} {l0 l1 l2 l3 : Option Value} {rest : List Value} : bk C d m_LL_couple 4 [l0, l1, l2, l3] rest (some (.inr 1, σ)) = runF C d m_LL_couple (13, [l0, l1, l2, none], [], σ) := bk_hnd (q := 13) (k := 3) rfl (by decide +kernel) rfl
theorem e_LL_meet {d : Nat} {σ : HP} {a0 : Nat} {x1 : Int32} {a2 : Nat} : callF (d + 1) m_LL_meet [.ref a0, .int x1, .ref a2] σ = runF (callF d) d m_LL_meet (0, [some (.ref a0), some (.int x1), some (.ref a2), none], [], σ) := callF_in rfl rfl
theorem b_LL_meet_0 {C : CF} {d : Nat} {σ : HP} {a2 : Nat} {a0 : Nat} {x1 : Int32} {l3 : Option Value} (h1 : a0 % 64 = 11) : runF C d m_LL_meet (0, [some (.ref a0), some (.int x1), some (.ref a2), l3], [], σ) = bk C d m_LL_meet 4 [some (.ref a0), some (.int x1), some (.ref a2), l3] [.int ((0 : Int32)), .ref a2] (C m_PL_meet [.ref a0, .int x1] σ) := by
  refine (r_aloadn 2 (show decode (zb m_LL_meet) 0 = .ok (.aload_n 2, 1) from by decide +kernel) rfl).trans ?_
  refine (r_iconst (v := (0 : Int32)) (show decode (zb m_LL_meet) 1 = .ok (.iconst (0), 1) from by decide +kernel) (by decide)).trans ?_
  refine (r_aloadn 0 (show decode (zb m_LL_meet) 2 = .ok (.aload_n 0, 1) from by decide +kernel) rfl).trans ?_
  refine (r_iloadn 1 (show decode (zb m_LL_meet) 3 = .ok (.iload_n 1, 1) from by decide +kernel) rfl).trans ?_
  exact r_virt (args := [.int x1]) (rest := [.int ((0 : Int32)), .ref a2]) (show decode (zb m_LL_meet) 4 = .ok (.invokevirtual 55, 3) from by decide +kernel) rfl rfl rfl h1
theorem b_LL_meet_7 {C : CF} {d : Nat} {σ : HP} {s0 : Int32} {s1 : Int32} {r2 : Nat} {l0 : Option Value} {l1 : Option Value} {l2 : Option Value} {l3 : Option Value} (h1 : aty (r2 % 64) = 2) (h2 : inR s1 (alen (r2 % 64)) = true) : runF C d m_LL_meet (7, [l0, l1, l2, l3], [.int s0, .int s1, .ref r2], σ) = runF C d m_LL_meet (15, [l0, l1, l2, l3], [], wJ σ r2 (Int32.toNatClampNeg s1) (Int32.toInt64 s0)) := by
  refine (r_i2l (show decode (zb m_LL_meet) 7 = .ok (.i2l, 1) from by decide +kernel)).trans ?_
  refine (r_last (show decode (zb m_LL_meet) 8 = .ok (.lastore, 1) from by decide +kernel) h1 h2).trans ?_
  exact r_goto 15 (show decode (zb m_LL_meet) 9 = .ok (.goto (6), 3) from by decide +kernel) rfl
theorem b_LL_meet_13 {C : CF} {d : Nat} {σ : HP} {l0 : Option Value} {l1 : Option Value} {l2 : Option Value} {l3 : Option Value}  : runF C d m_LL_meet (13, [l0, l1, l2, l3], [], σ) = some (.inl (some (.int (1 : Int32))), σ) := by
  refine (r_iconst (v := (1 : Int32)) (show decode (zb m_LL_meet) 13 = .ok (.iconst (1), 1) from by decide +kernel) (by decide)).trans ?_
  exact r_iret (show decode (zb m_LL_meet) 14 = .ok (.ireturn, 1) from by decide +kernel) rfl rfl
theorem b_LL_meet_15 {C : CF} {d : Nat} {σ : HP} {l0 : Option Value} {l1 : Option Value} {l2 : Option Value} {l3 : Option Value}  : runF C d m_LL_meet (15, [l0, l1, l2, l3], [], σ) = some (.inl (some (.int (0 : Int32))), σ) := by
  refine (r_iconst (v := (0 : Int32)) (show decode (zb m_LL_meet) 15 = .ok (.iconst (0), 1) from by decide +kernel) (by decide)).trans ?_
  exact r_iret (show decode (zb m_LL_meet) 16 = .ok (.ireturn, 1) from by decide +kernel) rfl rfl
theorem x_LL_meet_1 {C : CF} {d : Nat} {σ : HP} {l0 l1 l2 l3 : Option Value} {rest : List Value} : bk C d m_LL_meet 4 [l0, l1, l2, l3] rest (some (.inr 1, σ)) = runF C d m_LL_meet (13, [l0, l1, l2, none], [], σ) := bk_hnd (q := 13) (k := 3) rfl (by decide +kernel) rfl
theorem e_LL_cheapest {d : Nat} {σ : HP} {a0 : Nat} {x1 : Int32} {a2 : Nat} : callF (d + 1) m_LL_cheapest [.ref a0, .int x1, .ref a2] σ = runF (callF d) d m_LL_cheapest (0, [some (.ref a0), some (.int x1), some (.ref a2), none], [], σ) := callF_in rfl rfl
theorem b_LL_cheapest_0 {C : CF} {d : Nat} {σ : HP} {a2 : Nat} {a0 : Nat} {x1 : Int32} {l3 : Option Value} (h1 : a0 % 64 = 11) : runF C d m_LL_cheapest (0, [some (.ref a0), some (.int x1), some (.ref a2), l3], [], σ) = bk C d m_LL_cheapest 4 [some (.ref a0), some (.int x1), some (.ref a2), l3] [.int ((0 : Int32)), .ref a2] (C m_PL_cheapest [.ref a0, .int x1] σ) := by
  refine (r_aloadn 2 (show decode (zb m_LL_cheapest) 0 = .ok (.aload_n 2, 1) from by decide +kernel) rfl).trans ?_
  refine (r_iconst (v := (0 : Int32)) (show decode (zb m_LL_cheapest) 1 = .ok (.iconst (0), 1) from by decide +kernel) (by decide)).trans ?_
  refine (r_aloadn 0 (show decode (zb m_LL_cheapest) 2 = .ok (.aload_n 0, 1) from by decide +kernel) rfl).trans ?_
  refine (r_iloadn 1 (show decode (zb m_LL_cheapest) 3 = .ok (.iload_n 1, 1) from by decide +kernel) rfl).trans ?_
  exact r_virt (args := [.int x1]) (rest := [.int ((0 : Int32)), .ref a2]) (show decode (zb m_LL_cheapest) 4 = .ok (.invokevirtual 58, 3) from by decide +kernel) rfl rfl rfl h1
theorem b_LL_cheapest_7 {C : CF} {d : Nat} {σ : HP} {s0 : Int32} {s1 : Int32} {r2 : Nat} {l0 : Option Value} {l1 : Option Value} {l2 : Option Value} {l3 : Option Value} (h1 : aty (r2 % 64) = 2) (h2 : inR s1 (alen (r2 % 64)) = true) : runF C d m_LL_cheapest (7, [l0, l1, l2, l3], [.int s0, .int s1, .ref r2], σ) = runF C d m_LL_cheapest (15, [l0, l1, l2, l3], [], wJ σ r2 (Int32.toNatClampNeg s1) (Int32.toInt64 s0)) := by
  refine (r_i2l (show decode (zb m_LL_cheapest) 7 = .ok (.i2l, 1) from by decide +kernel)).trans ?_
  refine (r_last (show decode (zb m_LL_cheapest) 8 = .ok (.lastore, 1) from by decide +kernel) h1 h2).trans ?_
  exact r_goto 15 (show decode (zb m_LL_cheapest) 9 = .ok (.goto (6), 3) from by decide +kernel) rfl
theorem b_LL_cheapest_13 {C : CF} {d : Nat} {σ : HP} {l0 : Option Value} {l1 : Option Value} {l2 : Option Value} {l3 : Option Value}  : runF C d m_LL_cheapest (13, [l0, l1, l2, l3], [], σ) = some (.inl (some (.int (1 : Int32))), σ) := by
  refine (r_iconst (v := (1 : Int32)) (show decode (zb m_LL_cheapest) 13 = .ok (.iconst (1), 1) from by decide +kernel) (by decide)).trans ?_
  exact r_iret (show decode (zb m_LL_cheapest) 14 = .ok (.ireturn, 1) from by decide +kernel) rfl rfl
theorem b_LL_cheapest_15 {C : CF} {d : Nat} {σ : HP} {l0 : Option Value} {l1 : Option Value} {l2 : Option Value} {l3 : Option Value}  : runF C d m_LL_cheapest (15, [l0, l1, l2, l3], [], σ) = some (.inl (some (.int (0 : Int32))), σ) := by
  refine (r_iconst (v := (0 : Int32)) (show decode (zb m_LL_cheapest) 15 = .ok (.iconst (0), 1) from by decide +kernel) (by decide)).trans ?_
  exact r_iret (show decode (zb m_LL_cheapest) 16 = .ok (.ireturn, 1) from by decide +kernel) rfl rfl
theorem x_LL_cheapest_0 {C : CF} {d : Nat} {σ : HP} {l0 l1 l2 l3 : Option Value} {rest : List Value} : bk C d m_LL_cheapest 4 [l0, l1, l2, l3] rest (some (.inr 0, σ)) = runF C d m_LL_cheapest (13, [l0, l1, l2, none], [], σ) := bk_hnd (q := 13) (k := 3) rfl (by decide +kernel) rfl
theorem e_LL_fits {d : Nat} {σ : HP} {a0 : Nat} {x1 : Int32} {a2 : Nat} : callF (d + 1) m_LL_fits [.ref a0, .int x1, .ref a2] σ = runF (callF d) d m_LL_fits (0, [some (.ref a0), some (.int x1), some (.ref a2), none], [], σ) := callF_in rfl rfl
theorem b_LL_fits_0 {C : CF} {d : Nat} {σ : HP} {a2 : Nat} {a0 : Nat} {x1 : Int32} {l3 : Option Value} (h1 : a0 % 64 = 11) : runF C d m_LL_fits (0, [some (.ref a0), some (.int x1), some (.ref a2), l3], [], σ) = bk C d m_LL_fits 4 [some (.ref a0), some (.int x1), some (.ref a2), l3] [.int ((0 : Int32)), .ref a2] (C m_PL_fits [.ref a0, .int x1] σ) := by
  refine (r_aloadn 2 (show decode (zb m_LL_fits) 0 = .ok (.aload_n 2, 1) from by decide +kernel) rfl).trans ?_
  refine (r_iconst (v := (0 : Int32)) (show decode (zb m_LL_fits) 1 = .ok (.iconst (0), 1) from by decide +kernel) (by decide)).trans ?_
  refine (r_aloadn 0 (show decode (zb m_LL_fits) 2 = .ok (.aload_n 0, 1) from by decide +kernel) rfl).trans ?_
  refine (r_iloadn 1 (show decode (zb m_LL_fits) 3 = .ok (.iload_n 1, 1) from by decide +kernel) rfl).trans ?_
  exact r_virt (args := [.int x1]) (rest := [.int ((0 : Int32)), .ref a2]) (show decode (zb m_LL_fits) 4 = .ok (.invokevirtual 61, 3) from by decide +kernel) rfl rfl rfl h1
theorem b_LL_fits_7 {C : CF} {d : Nat} {σ : HP} {s0 : Int32} {s1 : Int32} {r2 : Nat} {l0 : Option Value} {l1 : Option Value} {l2 : Option Value} {l3 : Option Value} (h1 : aty (r2 % 64) = 2) (h2 : inR s1 (alen (r2 % 64)) = true) : runF C d m_LL_fits (7, [l0, l1, l2, l3], [.int s0, .int s1, .ref r2], σ) = runF C d m_LL_fits (15, [l0, l1, l2, l3], [], wJ σ r2 (Int32.toNatClampNeg s1) (Int32.toInt64 s0)) := by
  refine (r_i2l (show decode (zb m_LL_fits) 7 = .ok (.i2l, 1) from by decide +kernel)).trans ?_
  refine (r_last (show decode (zb m_LL_fits) 8 = .ok (.lastore, 1) from by decide +kernel) h1 h2).trans ?_
  exact r_goto 15 (show decode (zb m_LL_fits) 9 = .ok (.goto (6), 3) from by decide +kernel) rfl
theorem b_LL_fits_13 {C : CF} {d : Nat} {σ : HP} {l0 : Option Value} {l1 : Option Value} {l2 : Option Value} {l3 : Option Value}  : runF C d m_LL_fits (13, [l0, l1, l2, l3], [], σ) = some (.inl (some (.int (1 : Int32))), σ) := by
  refine (r_iconst (v := (1 : Int32)) (show decode (zb m_LL_fits) 13 = .ok (.iconst (1), 1) from by decide +kernel) (by decide)).trans ?_
  exact r_iret (show decode (zb m_LL_fits) 14 = .ok (.ireturn, 1) from by decide +kernel) rfl rfl
theorem b_LL_fits_15 {C : CF} {d : Nat} {σ : HP} {l0 : Option Value} {l1 : Option Value} {l2 : Option Value} {l3 : Option Value}  : runF C d m_LL_fits (15, [l0, l1, l2, l3], [], σ) = some (.inl (some (.int (0 : Int32))), σ) := by
  refine (r_iconst (v := (0 : Int32)) (show decode (zb m_LL_fits) 15 = .ok (.iconst (0), 1) from by decide +kernel) (by decide)).trans ?_
  exact r_iret (show decode (zb m_LL_fits) 16 = .ok (.ireturn, 1) from by decide +kernel) rfl rfl
theorem x_LL_fits_1 {C : CF} {d : Nat} {σ : HP} {l0 l1 l2 l3 : Option Value} {rest : List Value} : bk C d m_LL_fits 4 [l0, l1, l2, l3] rest (some (.inr 1, σ)) = runF C d m_LL_fits (13, [l0, l1, l2, none], [], σ) := bk_hnd (q := 13) (k := 3) rfl (by decide +kernel) rfl
theorem e_LL_look {d : Nat} {σ : HP} {a0 : Nat} {x1 : Int32} {a2 : Nat} : callF (d + 1) m_LL_look [.ref a0, .int x1, .ref a2] σ = runF (callF d) d m_LL_look (0, [some (.ref a0), some (.int x1), some (.ref a2), none], [], σ) := callF_in rfl rfl
theorem b_LL_look_0 {C : CF} {d : Nat} {σ : HP} {a2 : Nat} {a0 : Nat} {x1 : Int32} {l3 : Option Value} (h1 : a0 % 64 = 11) : runF C d m_LL_look (0, [some (.ref a0), some (.int x1), some (.ref a2), l3], [], σ) = bk C d m_LL_look 4 [some (.ref a0), some (.int x1), some (.ref a2), l3] [.int ((0 : Int32)), .ref a2] (C m_PL_look [.ref a0, .int x1] σ) := by
  refine (r_aloadn 2 (show decode (zb m_LL_look) 0 = .ok (.aload_n 2, 1) from by decide +kernel) rfl).trans ?_
  refine (r_iconst (v := (0 : Int32)) (show decode (zb m_LL_look) 1 = .ok (.iconst (0), 1) from by decide +kernel) (by decide)).trans ?_
  refine (r_aloadn 0 (show decode (zb m_LL_look) 2 = .ok (.aload_n 0, 1) from by decide +kernel) rfl).trans ?_
  refine (r_iloadn 1 (show decode (zb m_LL_look) 3 = .ok (.iload_n 1, 1) from by decide +kernel) rfl).trans ?_
  exact r_virt (args := [.int x1]) (rest := [.int ((0 : Int32)), .ref a2]) (show decode (zb m_LL_look) 4 = .ok (.invokevirtual 64, 3) from by decide +kernel) rfl rfl rfl h1
theorem b_LL_look_7 {C : CF} {d : Nat} {σ : HP} {s0 : Int32} {s1 : Int32} {r2 : Nat} {l0 : Option Value} {l1 : Option Value} {l2 : Option Value} {l3 : Option Value} (h1 : aty (r2 % 64) = 2) (h2 : inR s1 (alen (r2 % 64)) = true) : runF C d m_LL_look (7, [l0, l1, l2, l3], [.int s0, .int s1, .ref r2], σ) = runF C d m_LL_look (15, [l0, l1, l2, l3], [], wJ σ r2 (Int32.toNatClampNeg s1) (Int32.toInt64 s0)) := by
  refine (r_i2l (show decode (zb m_LL_look) 7 = .ok (.i2l, 1) from by decide +kernel)).trans ?_
  refine (r_last (show decode (zb m_LL_look) 8 = .ok (.lastore, 1) from by decide +kernel) h1 h2).trans ?_
  exact r_goto 15 (show decode (zb m_LL_look) 9 = .ok (.goto (6), 3) from by decide +kernel) rfl
theorem b_LL_look_13 {C : CF} {d : Nat} {σ : HP} {l0 : Option Value} {l1 : Option Value} {l2 : Option Value} {l3 : Option Value}  : runF C d m_LL_look (13, [l0, l1, l2, l3], [], σ) = some (.inl (some (.int (1 : Int32))), σ) := by
  refine (r_iconst (v := (1 : Int32)) (show decode (zb m_LL_look) 13 = .ok (.iconst (1), 1) from by decide +kernel) (by decide)).trans ?_
  exact r_iret (show decode (zb m_LL_look) 14 = .ok (.ireturn, 1) from by decide +kernel) rfl rfl
theorem b_LL_look_15 {C : CF} {d : Nat} {σ : HP} {l0 : Option Value} {l1 : Option Value} {l2 : Option Value} {l3 : Option Value}  : runF C d m_LL_look (15, [l0, l1, l2, l3], [], σ) = some (.inl (some (.int (0 : Int32))), σ) := by
  refine (r_iconst (v := (0 : Int32)) (show decode (zb m_LL_look) 15 = .ok (.iconst (0), 1) from by decide +kernel) (by decide)).trans ?_
  exact r_iret (show decode (zb m_LL_look) 16 = .ok (.ireturn, 1) from by decide +kernel) rfl rfl
theorem x_LL_look_1 {C : CF} {d : Nat} {σ : HP} {l0 l1 l2 l3 : Option Value} {rest : List Value} : bk C d m_LL_look 4 [l0, l1, l2, l3] rest (some (.inr 1, σ)) = runF C d m_LL_look (13, [l0, l1, l2, none], [], σ) := bk_hnd (q := 13) (k := 3) rfl (by decide +kernel) rfl
theorem e_LL_streak {d : Nat} {σ : HP} {a0 : Nat} {x1 : Int32} {x2 : Int32} {x3 : Int32} {x4 : Int32} {a5 : Nat} : callF (d + 1) m_LL_streak [.ref a0, .int x1, .int x2, .int x3, .int x4, .ref a5] σ = runF (callF d) d m_LL_streak (0, [some (.ref a0), some (.int x1), some (.int x2), some (.int x3), some (.int x4), some (.ref a5), none], [], σ) := callF_in rfl rfl
theorem b_LL_streak_0 {C : CF} {d : Nat} {σ : HP} {a5 : Nat} {a0 : Nat} {x1 : Int32} {x2 : Int32} {x3 : Int32} {x4 : Int32} {l6 : Option Value} (h1 : a0 % 64 = 11) : runF C d m_LL_streak (0, [some (.ref a0), some (.int x1), some (.int x2), some (.int x3), some (.int x4), some (.ref a5), l6], [], σ) = bk C d m_LL_streak 9 [some (.ref a0), some (.int x1), some (.int x2), some (.int x3), some (.int x4), some (.ref a5), l6] [.int ((0 : Int32)), .ref a5] (C m_PL_streak [.ref a0, .int x1, .int x2, .int x3, .int x4] σ) := by
  refine (r_aload 5 (show decode (zb m_LL_streak) 0 = .ok (.aload 5, 2) from by decide +kernel) rfl).trans ?_
  refine (r_iconst (v := (0 : Int32)) (show decode (zb m_LL_streak) 2 = .ok (.iconst (0), 1) from by decide +kernel) (by decide)).trans ?_
  refine (r_aloadn 0 (show decode (zb m_LL_streak) 3 = .ok (.aload_n 0, 1) from by decide +kernel) rfl).trans ?_
  refine (r_iloadn 1 (show decode (zb m_LL_streak) 4 = .ok (.iload_n 1, 1) from by decide +kernel) rfl).trans ?_
  refine (r_iloadn 2 (show decode (zb m_LL_streak) 5 = .ok (.iload_n 2, 1) from by decide +kernel) rfl).trans ?_
  refine (r_iloadn 3 (show decode (zb m_LL_streak) 6 = .ok (.iload_n 3, 1) from by decide +kernel) rfl).trans ?_
  refine (r_iload 4 (show decode (zb m_LL_streak) 7 = .ok (.iload 4, 2) from by decide +kernel) rfl).trans ?_
  exact r_virt (args := [.int x1, .int x2, .int x3, .int x4]) (rest := [.int ((0 : Int32)), .ref a5]) (show decode (zb m_LL_streak) 9 = .ok (.invokevirtual 67, 3) from by decide +kernel) rfl rfl rfl h1
theorem b_LL_streak_12 {C : CF} {d : Nat} {σ : HP} {t0 : Int64} {s1 : Int32} {r2 : Nat} {l0 : Option Value} {l1 : Option Value} {l2 : Option Value} {l3 : Option Value} {l4 : Option Value} {l5 : Option Value} {l6 : Option Value} (h1 : aty (r2 % 64) = 2) (h2 : inR s1 (alen (r2 % 64)) = true) : runF C d m_LL_streak (12, [l0, l1, l2, l3, l4, l5, l6], [.long t0, .int s1, .ref r2], σ) = runF C d m_LL_streak (20, [l0, l1, l2, l3, l4, l5, l6], [], wJ σ r2 (Int32.toNatClampNeg s1) t0) := by
  refine (r_last (show decode (zb m_LL_streak) 12 = .ok (.lastore, 1) from by decide +kernel) h1 h2).trans ?_
  exact r_goto 20 (show decode (zb m_LL_streak) 13 = .ok (.goto (7), 3) from by decide +kernel) rfl
theorem b_LL_streak_18 {C : CF} {d : Nat} {σ : HP} {l0 : Option Value} {l1 : Option Value} {l2 : Option Value} {l3 : Option Value} {l4 : Option Value} {l5 : Option Value} {l6 : Option Value}  : runF C d m_LL_streak (18, [l0, l1, l2, l3, l4, l5, l6], [], σ) = some (.inl (some (.int (1 : Int32))), σ) := by
  refine (r_iconst (v := (1 : Int32)) (show decode (zb m_LL_streak) 18 = .ok (.iconst (1), 1) from by decide +kernel) (by decide)).trans ?_
  exact r_iret (show decode (zb m_LL_streak) 19 = .ok (.ireturn, 1) from by decide +kernel) rfl rfl
theorem b_LL_streak_20 {C : CF} {d : Nat} {σ : HP} {l0 : Option Value} {l1 : Option Value} {l2 : Option Value} {l3 : Option Value} {l4 : Option Value} {l5 : Option Value} {l6 : Option Value}  : runF C d m_LL_streak (20, [l0, l1, l2, l3, l4, l5, l6], [], σ) = some (.inl (some (.int (0 : Int32))), σ) := by
  refine (r_iconst (v := (0 : Int32)) (show decode (zb m_LL_streak) 20 = .ok (.iconst (0), 1) from by decide +kernel) (by decide)).trans ?_
  exact r_iret (show decode (zb m_LL_streak) 21 = .ok (.ireturn, 1) from by decide +kernel) rfl rfl
theorem x_LL_streak_1 {C : CF} {d : Nat} {σ : HP} {l0 l1 l2 l3 l4 l5 l6 : Option Value} {rest : List Value} : bk C d m_LL_streak 9 [l0, l1, l2, l3, l4, l5, l6] rest (some (.inr 1, σ)) = runF C d m_LL_streak (18, [l0, l1, l2, l3, l4, l5, none], [], σ) := bk_hnd (q := 18) (k := 6) rfl (by decide +kernel) rfl
theorem e_LL_flatter {d : Nat} {σ : HP} {a0 : Nat} {x1 : Int32} {x2 : Int32} {x3 : Int32} {a4 : Nat} : callF (d + 1) m_LL_flatter [.ref a0, .int x1, .int x2, .int x3, .ref a4] σ = runF (callF d) d m_LL_flatter (0, [some (.ref a0), some (.int x1), some (.int x2), some (.int x3), some (.ref a4), none], [], σ) := callF_in rfl rfl
theorem b_LL_flatter_0 {C : CF} {d : Nat} {σ : HP} {a4 : Nat} {a0 : Nat} {x1 : Int32} {x2 : Int32} {x3 : Int32} {l5 : Option Value} (h1 : a0 % 64 = 11) : runF C d m_LL_flatter (0, [some (.ref a0), some (.int x1), some (.int x2), some (.int x3), some (.ref a4), l5], [], σ) = bk C d m_LL_flatter 7 [some (.ref a0), some (.int x1), some (.int x2), some (.int x3), some (.ref a4), l5] [.int ((0 : Int32)), .ref a4] (C m_PL_flatter [.ref a0, .int x1, .int x2, .int x3] σ) := by
  refine (r_aload 4 (show decode (zb m_LL_flatter) 0 = .ok (.aload 4, 2) from by decide +kernel) rfl).trans ?_
  refine (r_iconst (v := (0 : Int32)) (show decode (zb m_LL_flatter) 2 = .ok (.iconst (0), 1) from by decide +kernel) (by decide)).trans ?_
  refine (r_aloadn 0 (show decode (zb m_LL_flatter) 3 = .ok (.aload_n 0, 1) from by decide +kernel) rfl).trans ?_
  refine (r_iloadn 1 (show decode (zb m_LL_flatter) 4 = .ok (.iload_n 1, 1) from by decide +kernel) rfl).trans ?_
  refine (r_iloadn 2 (show decode (zb m_LL_flatter) 5 = .ok (.iload_n 2, 1) from by decide +kernel) rfl).trans ?_
  refine (r_iloadn 3 (show decode (zb m_LL_flatter) 6 = .ok (.iload_n 3, 1) from by decide +kernel) rfl).trans ?_
  exact r_virt (args := [.int x1, .int x2, .int x3]) (rest := [.int ((0 : Int32)), .ref a4]) (show decode (zb m_LL_flatter) 7 = .ok (.invokevirtual 71, 3) from by decide +kernel) rfl rfl rfl h1
theorem b_LL_flatter_10 {C : CF} {d : Nat} {σ : HP} {s0 : Int32} {s1 : Int32} {r2 : Nat} {l0 : Option Value} {l1 : Option Value} {l2 : Option Value} {l3 : Option Value} {l4 : Option Value} {l5 : Option Value} (h1 : aty (r2 % 64) = 2) (h2 : inR s1 (alen (r2 % 64)) = true) : runF C d m_LL_flatter (10, [l0, l1, l2, l3, l4, l5], [.int s0, .int s1, .ref r2], σ) = runF C d m_LL_flatter (19, [l0, l1, l2, l3, l4, l5], [], wJ σ r2 (Int32.toNatClampNeg s1) (Int32.toInt64 s0)) := by
  refine (r_i2l (show decode (zb m_LL_flatter) 10 = .ok (.i2l, 1) from by decide +kernel)).trans ?_
  refine (r_last (show decode (zb m_LL_flatter) 11 = .ok (.lastore, 1) from by decide +kernel) h1 h2).trans ?_
  exact r_goto 19 (show decode (zb m_LL_flatter) 12 = .ok (.goto (7), 3) from by decide +kernel) rfl
theorem b_LL_flatter_17 {C : CF} {d : Nat} {σ : HP} {l0 : Option Value} {l1 : Option Value} {l2 : Option Value} {l3 : Option Value} {l4 : Option Value} {l5 : Option Value}  : runF C d m_LL_flatter (17, [l0, l1, l2, l3, l4, l5], [], σ) = some (.inl (some (.int (1 : Int32))), σ) := by
  refine (r_iconst (v := (1 : Int32)) (show decode (zb m_LL_flatter) 17 = .ok (.iconst (1), 1) from by decide +kernel) (by decide)).trans ?_
  exact r_iret (show decode (zb m_LL_flatter) 18 = .ok (.ireturn, 1) from by decide +kernel) rfl rfl
theorem b_LL_flatter_19 {C : CF} {d : Nat} {σ : HP} {l0 : Option Value} {l1 : Option Value} {l2 : Option Value} {l3 : Option Value} {l4 : Option Value} {l5 : Option Value}  : runF C d m_LL_flatter (19, [l0, l1, l2, l3, l4, l5], [], σ) = some (.inl (some (.int (0 : Int32))), σ) := by
  refine (r_iconst (v := (0 : Int32)) (show decode (zb m_LL_flatter) 19 = .ok (.iconst (0), 1) from by decide +kernel) (by decide)).trans ?_
  exact r_iret (show decode (zb m_LL_flatter) 20 = .ok (.ireturn, 1) from by decide +kernel) rfl rfl
theorem x_LL_flatter_1 {C : CF} {d : Nat} {σ : HP} {l0 l1 l2 l3 l4 l5 : Option Value} {rest : List Value} : bk C d m_LL_flatter 7 [l0, l1, l2, l3, l4, l5] rest (some (.inr 1, σ)) = runF C d m_LL_flatter (17, [l0, l1, l2, l3, l4, none], [], σ) := bk_hnd (q := 17) (k := 5) rfl (by decide +kernel) rfl
theorem e_LL_breath {d : Nat} {σ : HP} {a0 : Nat} {x1 : Int32} {x2 : Int32} {x3 : Int32} {a4 : Nat} : callF (d + 1) m_LL_breath [.ref a0, .int x1, .int x2, .int x3, .ref a4] σ = runF (callF d) d m_LL_breath (0, [some (.ref a0), some (.int x1), some (.int x2), some (.int x3), some (.ref a4), none], [], σ) := callF_in rfl rfl
theorem b_LL_breath_0 {C : CF} {d : Nat} {σ : HP} {a4 : Nat} {a0 : Nat} {x1 : Int32} {x2 : Int32} {x3 : Int32} {l5 : Option Value} (h1 : a0 % 64 = 11) : runF C d m_LL_breath (0, [some (.ref a0), some (.int x1), some (.int x2), some (.int x3), some (.ref a4), l5], [], σ) = bk C d m_LL_breath 7 [some (.ref a0), some (.int x1), some (.int x2), some (.int x3), some (.ref a4), l5] [.int ((0 : Int32)), .ref a4] (C m_PL_breath [.ref a0, .int x1, .int x2, .int x3] σ) := by
  refine (r_aload 4 (show decode (zb m_LL_breath) 0 = .ok (.aload 4, 2) from by decide +kernel) rfl).trans ?_
  refine (r_iconst (v := (0 : Int32)) (show decode (zb m_LL_breath) 2 = .ok (.iconst (0), 1) from by decide +kernel) (by decide)).trans ?_
  refine (r_aloadn 0 (show decode (zb m_LL_breath) 3 = .ok (.aload_n 0, 1) from by decide +kernel) rfl).trans ?_
  refine (r_iloadn 1 (show decode (zb m_LL_breath) 4 = .ok (.iload_n 1, 1) from by decide +kernel) rfl).trans ?_
  refine (r_iloadn 2 (show decode (zb m_LL_breath) 5 = .ok (.iload_n 2, 1) from by decide +kernel) rfl).trans ?_
  refine (r_iloadn 3 (show decode (zb m_LL_breath) 6 = .ok (.iload_n 3, 1) from by decide +kernel) rfl).trans ?_
  exact r_virt (args := [.int x1, .int x2, .int x3]) (rest := [.int ((0 : Int32)), .ref a4]) (show decode (zb m_LL_breath) 7 = .ok (.invokevirtual 75, 3) from by decide +kernel) rfl rfl rfl h1
theorem b_LL_breath_10 {C : CF} {d : Nat} {σ : HP} {s0 : Int32} {s1 : Int32} {r2 : Nat} {l0 : Option Value} {l1 : Option Value} {l2 : Option Value} {l3 : Option Value} {l4 : Option Value} {l5 : Option Value} (h1 : aty (r2 % 64) = 2) (h2 : inR s1 (alen (r2 % 64)) = true) : runF C d m_LL_breath (10, [l0, l1, l2, l3, l4, l5], [.int s0, .int s1, .ref r2], σ) = runF C d m_LL_breath (23, [l0, l1, l2, l3, l4, l5], [], wJ σ r2 (Int32.toNatClampNeg s1) (Int32.toInt64 s0)) := by
  refine (r_i2l (show decode (zb m_LL_breath) 10 = .ok (.i2l, 1) from by decide +kernel)).trans ?_
  refine (r_last (show decode (zb m_LL_breath) 11 = .ok (.lastore, 1) from by decide +kernel) h1 h2).trans ?_
  exact r_goto 23 (show decode (zb m_LL_breath) 12 = .ok (.goto (11), 3) from by decide +kernel) rfl
theorem b_LL_breath_17 {C : CF} {d : Nat} {σ : HP} {l0 : Option Value} {l1 : Option Value} {l2 : Option Value} {l3 : Option Value} {l4 : Option Value} {l5 : Option Value}  : runF C d m_LL_breath (17, [l0, l1, l2, l3, l4, l5], [], σ) = some (.inl (some (.int (1 : Int32))), σ) := by
  refine (r_iconst (v := (1 : Int32)) (show decode (zb m_LL_breath) 17 = .ok (.iconst (1), 1) from by decide +kernel) (by decide)).trans ?_
  exact r_iret (show decode (zb m_LL_breath) 18 = .ok (.ireturn, 1) from by decide +kernel) rfl rfl
theorem b_LL_breath_21 {C : CF} {d : Nat} {σ : HP} {l0 : Option Value} {l1 : Option Value} {l2 : Option Value} {l3 : Option Value} {l4 : Option Value} {l5 : Option Value}  : runF C d m_LL_breath (21, [l0, l1, l2, l3, l4, l5], [], σ) = some (.inl (some (.int (2 : Int32))), σ) := by
  refine (r_iconst (v := (2 : Int32)) (show decode (zb m_LL_breath) 21 = .ok (.iconst (2), 1) from by decide +kernel) (by decide)).trans ?_
  exact r_iret (show decode (zb m_LL_breath) 22 = .ok (.ireturn, 1) from by decide +kernel) rfl rfl
theorem b_LL_breath_23 {C : CF} {d : Nat} {σ : HP} {l0 : Option Value} {l1 : Option Value} {l2 : Option Value} {l3 : Option Value} {l4 : Option Value} {l5 : Option Value}  : runF C d m_LL_breath (23, [l0, l1, l2, l3, l4, l5], [], σ) = some (.inl (some (.int (0 : Int32))), σ) := by
  refine (r_iconst (v := (0 : Int32)) (show decode (zb m_LL_breath) 23 = .ok (.iconst (0), 1) from by decide +kernel) (by decide)).trans ?_
  exact r_iret (show decode (zb m_LL_breath) 24 = .ok (.ireturn, 1) from by decide +kernel) rfl rfl
theorem x_LL_breath_0 {C : CF} {d : Nat} {σ : HP} {l0 l1 l2 l3 l4 l5 : Option Value} {rest : List Value} : bk C d m_LL_breath 7 [l0, l1, l2, l3, l4, l5] rest (some (.inr 0, σ)) = runF C d m_LL_breath (17, [l0, l1, l2, l3, l4, none], [], σ) := bk_hnd (q := 17) (k := 5) rfl (by decide +kernel) rfl
theorem x_LL_breath_1 {C : CF} {d : Nat} {σ : HP} {l0 l1 l2 l3 l4 l5 : Option Value} {rest : List Value} : bk C d m_LL_breath 7 [l0, l1, l2, l3, l4, l5] rest (some (.inr 1, σ)) = runF C d m_LL_breath (21, [l0, l1, l2, l3, l4, none], [], σ) := bk_hnd (q := 21) (k := 5) rfl (by decide +kernel) rfl
theorem e_LL_heaviest {d : Nat} {σ : HP} {a0 : Nat} {x1 : Int32} {a2 : Nat} : callF (d + 1) m_LL_heaviest [.ref a0, .int x1, .ref a2] σ = runF (callF d) d m_LL_heaviest (0, [some (.ref a0), some (.int x1), some (.ref a2), none], [], σ) := callF_in rfl rfl
theorem b_LL_heaviest_0 {C : CF} {d : Nat} {σ : HP} {a2 : Nat} {a0 : Nat} {x1 : Int32} {l3 : Option Value} (h1 : a0 % 64 = 11) : runF C d m_LL_heaviest (0, [some (.ref a0), some (.int x1), some (.ref a2), l3], [], σ) = bk C d m_LL_heaviest 4 [some (.ref a0), some (.int x1), some (.ref a2), l3] [.int ((0 : Int32)), .ref a2] (C m_PL_heaviest [.ref a0, .int x1] σ) := by
  refine (r_aloadn 2 (show decode (zb m_LL_heaviest) 0 = .ok (.aload_n 2, 1) from by decide +kernel) rfl).trans ?_
  refine (r_iconst (v := (0 : Int32)) (show decode (zb m_LL_heaviest) 1 = .ok (.iconst (0), 1) from by decide +kernel) (by decide)).trans ?_
  refine (r_aloadn 0 (show decode (zb m_LL_heaviest) 2 = .ok (.aload_n 0, 1) from by decide +kernel) rfl).trans ?_
  refine (r_iloadn 1 (show decode (zb m_LL_heaviest) 3 = .ok (.iload_n 1, 1) from by decide +kernel) rfl).trans ?_
  exact r_virt (args := [.int x1]) (rest := [.int ((0 : Int32)), .ref a2]) (show decode (zb m_LL_heaviest) 4 = .ok (.invokevirtual 78, 3) from by decide +kernel) rfl rfl rfl h1
theorem b_LL_heaviest_7 {C : CF} {d : Nat} {σ : HP} {s0 : Int32} {s1 : Int32} {r2 : Nat} {l0 : Option Value} {l1 : Option Value} {l2 : Option Value} {l3 : Option Value} (h1 : aty (r2 % 64) = 2) (h2 : inR s1 (alen (r2 % 64)) = true) : runF C d m_LL_heaviest (7, [l0, l1, l2, l3], [.int s0, .int s1, .ref r2], σ) = runF C d m_LL_heaviest (15, [l0, l1, l2, l3], [], wJ σ r2 (Int32.toNatClampNeg s1) (Int32.toInt64 s0)) := by
  refine (r_i2l (show decode (zb m_LL_heaviest) 7 = .ok (.i2l, 1) from by decide +kernel)).trans ?_
  refine (r_last (show decode (zb m_LL_heaviest) 8 = .ok (.lastore, 1) from by decide +kernel) h1 h2).trans ?_
  exact r_goto 15 (show decode (zb m_LL_heaviest) 9 = .ok (.goto (6), 3) from by decide +kernel) rfl
theorem b_LL_heaviest_13 {C : CF} {d : Nat} {σ : HP} {l0 : Option Value} {l1 : Option Value} {l2 : Option Value} {l3 : Option Value}  : runF C d m_LL_heaviest (13, [l0, l1, l2, l3], [], σ) = some (.inl (some (.int (1 : Int32))), σ) := by
  refine (r_iconst (v := (1 : Int32)) (show decode (zb m_LL_heaviest) 13 = .ok (.iconst (1), 1) from by decide +kernel) (by decide)).trans ?_
  exact r_iret (show decode (zb m_LL_heaviest) 14 = .ok (.ireturn, 1) from by decide +kernel) rfl rfl
theorem b_LL_heaviest_15 {C : CF} {d : Nat} {σ : HP} {l0 : Option Value} {l1 : Option Value} {l2 : Option Value} {l3 : Option Value}  : runF C d m_LL_heaviest (15, [l0, l1, l2, l3], [], σ) = some (.inl (some (.int (0 : Int32))), σ) := by
  refine (r_iconst (v := (0 : Int32)) (show decode (zb m_LL_heaviest) 15 = .ok (.iconst (0), 1) from by decide +kernel) (by decide)).trans ?_
  exact r_iret (show decode (zb m_LL_heaviest) 16 = .ok (.ireturn, 1) from by decide +kernel) rfl rfl
theorem x_LL_heaviest_1 {C : CF} {d : Nat} {σ : HP} {l0 l1 l2 l3 : Option Value} {rest : List Value} : bk C d m_LL_heaviest 4 [l0, l1, l2, l3] rest (some (.inr 1, σ)) = runF C d m_LL_heaviest (13, [l0, l1, l2, none], [], σ) := bk_hnd (q := 13) (k := 3) rfl (by decide +kernel) rfl
theorem e_LL_floor {d : Nat} {σ : HP} {a0 : Nat} {x1 : Int32} {a2 : Nat} : callF (d + 1) m_LL_floor [.ref a0, .int x1, .ref a2] σ = runF (callF d) d m_LL_floor (0, [some (.ref a0), some (.int x1), some (.ref a2), none], [], σ) := callF_in rfl rfl
theorem b_LL_floor_0 {C : CF} {d : Nat} {σ : HP} {a2 : Nat} {a0 : Nat} {x1 : Int32} {l3 : Option Value} (h1 : a0 % 64 = 11) : runF C d m_LL_floor (0, [some (.ref a0), some (.int x1), some (.ref a2), l3], [], σ) = bk C d m_LL_floor 4 [some (.ref a0), some (.int x1), some (.ref a2), l3] [.int ((0 : Int32)), .ref a2] (C m_PL_floor [.ref a0, .int x1] σ) := by
  refine (r_aloadn 2 (show decode (zb m_LL_floor) 0 = .ok (.aload_n 2, 1) from by decide +kernel) rfl).trans ?_
  refine (r_iconst (v := (0 : Int32)) (show decode (zb m_LL_floor) 1 = .ok (.iconst (0), 1) from by decide +kernel) (by decide)).trans ?_
  refine (r_aloadn 0 (show decode (zb m_LL_floor) 2 = .ok (.aload_n 0, 1) from by decide +kernel) rfl).trans ?_
  refine (r_iloadn 1 (show decode (zb m_LL_floor) 3 = .ok (.iload_n 1, 1) from by decide +kernel) rfl).trans ?_
  exact r_virt (args := [.int x1]) (rest := [.int ((0 : Int32)), .ref a2]) (show decode (zb m_LL_floor) 4 = .ok (.invokevirtual 81, 3) from by decide +kernel) rfl rfl rfl h1
theorem b_LL_floor_7 {C : CF} {d : Nat} {σ : HP} {s0 : Int32} {s1 : Int32} {r2 : Nat} {l0 : Option Value} {l1 : Option Value} {l2 : Option Value} {l3 : Option Value} (h1 : aty (r2 % 64) = 2) (h2 : inR s1 (alen (r2 % 64)) = true) : runF C d m_LL_floor (7, [l0, l1, l2, l3], [.int s0, .int s1, .ref r2], σ) = runF C d m_LL_floor (15, [l0, l1, l2, l3], [], wJ σ r2 (Int32.toNatClampNeg s1) (Int32.toInt64 s0)) := by
  refine (r_i2l (show decode (zb m_LL_floor) 7 = .ok (.i2l, 1) from by decide +kernel)).trans ?_
  refine (r_last (show decode (zb m_LL_floor) 8 = .ok (.lastore, 1) from by decide +kernel) h1 h2).trans ?_
  exact r_goto 15 (show decode (zb m_LL_floor) 9 = .ok (.goto (6), 3) from by decide +kernel) rfl
theorem b_LL_floor_13 {C : CF} {d : Nat} {σ : HP} {l0 : Option Value} {l1 : Option Value} {l2 : Option Value} {l3 : Option Value}  : runF C d m_LL_floor (13, [l0, l1, l2, l3], [], σ) = some (.inl (some (.int (1 : Int32))), σ) := by
  refine (r_iconst (v := (1 : Int32)) (show decode (zb m_LL_floor) 13 = .ok (.iconst (1), 1) from by decide +kernel) (by decide)).trans ?_
  exact r_iret (show decode (zb m_LL_floor) 14 = .ok (.ireturn, 1) from by decide +kernel) rfl rfl
theorem b_LL_floor_15 {C : CF} {d : Nat} {σ : HP} {l0 : Option Value} {l1 : Option Value} {l2 : Option Value} {l3 : Option Value}  : runF C d m_LL_floor (15, [l0, l1, l2, l3], [], σ) = some (.inl (some (.int (0 : Int32))), σ) := by
  refine (r_iconst (v := (0 : Int32)) (show decode (zb m_LL_floor) 15 = .ok (.iconst (0), 1) from by decide +kernel) (by decide)).trans ?_
  exact r_iret (show decode (zb m_LL_floor) 16 = .ok (.ireturn, 1) from by decide +kernel) rfl rfl
theorem x_LL_floor_1 {C : CF} {d : Nat} {σ : HP} {l0 l1 l2 l3 : Option Value} {rest : List Value} : bk C d m_LL_floor 4 [l0, l1, l2, l3] rest (some (.inr 1, σ)) = runF C d m_LL_floor (13, [l0, l1, l2, none], [], σ) := bk_hnd (q := 13) (k := 3) rfl (by decide +kernel) rfl
theorem e_LL_sweetest {d : Nat} {σ : HP} {a0 : Nat} {x1 : Int32} {x2 : Int32} {a3 : Nat} : callF (d + 1) m_LL_sweetest [.ref a0, .int x1, .int x2, .ref a3] σ = runF (callF d) d m_LL_sweetest (0, [some (.ref a0), some (.int x1), some (.int x2), some (.ref a3), none], [], σ) := callF_in rfl rfl
theorem b_LL_sweetest_0 {C : CF} {d : Nat} {σ : HP} {a3 : Nat} {a0 : Nat} {x1 : Int32} {x2 : Int32} {l4 : Option Value} (h1 : a0 % 64 = 11) : runF C d m_LL_sweetest (0, [some (.ref a0), some (.int x1), some (.int x2), some (.ref a3), l4], [], σ) = bk C d m_LL_sweetest 5 [some (.ref a0), some (.int x1), some (.int x2), some (.ref a3), l4] [.int ((0 : Int32)), .ref a3] (C m_PL_sweetest [.ref a0, .int x1, .int x2] σ) := by
  refine (r_aloadn 3 (show decode (zb m_LL_sweetest) 0 = .ok (.aload_n 3, 1) from by decide +kernel) rfl).trans ?_
  refine (r_iconst (v := (0 : Int32)) (show decode (zb m_LL_sweetest) 1 = .ok (.iconst (0), 1) from by decide +kernel) (by decide)).trans ?_
  refine (r_aloadn 0 (show decode (zb m_LL_sweetest) 2 = .ok (.aload_n 0, 1) from by decide +kernel) rfl).trans ?_
  refine (r_iloadn 1 (show decode (zb m_LL_sweetest) 3 = .ok (.iload_n 1, 1) from by decide +kernel) rfl).trans ?_
  refine (r_iloadn 2 (show decode (zb m_LL_sweetest) 4 = .ok (.iload_n 2, 1) from by decide +kernel) rfl).trans ?_
  exact r_virt (args := [.int x1, .int x2]) (rest := [.int ((0 : Int32)), .ref a3]) (show decode (zb m_LL_sweetest) 5 = .ok (.invokevirtual 84, 3) from by decide +kernel) rfl rfl rfl h1
theorem b_LL_sweetest_8 {C : CF} {d : Nat} {σ : HP} {s0 : Int32} {s1 : Int32} {r2 : Nat} {l0 : Option Value} {l1 : Option Value} {l2 : Option Value} {l3 : Option Value} {l4 : Option Value} (h1 : aty (r2 % 64) = 2) (h2 : inR s1 (alen (r2 % 64)) = true) : runF C d m_LL_sweetest (8, [l0, l1, l2, l3, l4], [.int s0, .int s1, .ref r2], σ) = runF C d m_LL_sweetest (21, [l0, l1, l2, l3, l4], [], wJ σ r2 (Int32.toNatClampNeg s1) (Int32.toInt64 s0)) := by
  refine (r_i2l (show decode (zb m_LL_sweetest) 8 = .ok (.i2l, 1) from by decide +kernel)).trans ?_
  refine (r_last (show decode (zb m_LL_sweetest) 9 = .ok (.lastore, 1) from by decide +kernel) h1 h2).trans ?_
  exact r_goto 21 (show decode (zb m_LL_sweetest) 10 = .ok (.goto (11), 3) from by decide +kernel) rfl
theorem b_LL_sweetest_15 {C : CF} {d : Nat} {σ : HP} {l0 : Option Value} {l1 : Option Value} {l2 : Option Value} {l3 : Option Value} {l4 : Option Value}  : runF C d m_LL_sweetest (15, [l0, l1, l2, l3, l4], [], σ) = some (.inl (some (.int (1 : Int32))), σ) := by
  refine (r_iconst (v := (1 : Int32)) (show decode (zb m_LL_sweetest) 15 = .ok (.iconst (1), 1) from by decide +kernel) (by decide)).trans ?_
  exact r_iret (show decode (zb m_LL_sweetest) 16 = .ok (.ireturn, 1) from by decide +kernel) rfl rfl
theorem b_LL_sweetest_19 {C : CF} {d : Nat} {σ : HP} {l0 : Option Value} {l1 : Option Value} {l2 : Option Value} {l3 : Option Value} {l4 : Option Value}  : runF C d m_LL_sweetest (19, [l0, l1, l2, l3, l4], [], σ) = some (.inl (some (.int (2 : Int32))), σ) := by
  refine (r_iconst (v := (2 : Int32)) (show decode (zb m_LL_sweetest) 19 = .ok (.iconst (2), 1) from by decide +kernel) (by decide)).trans ?_
  exact r_iret (show decode (zb m_LL_sweetest) 20 = .ok (.ireturn, 1) from by decide +kernel) rfl rfl
theorem b_LL_sweetest_21 {C : CF} {d : Nat} {σ : HP} {l0 : Option Value} {l1 : Option Value} {l2 : Option Value} {l3 : Option Value} {l4 : Option Value}  : runF C d m_LL_sweetest (21, [l0, l1, l2, l3, l4], [], σ) = some (.inl (some (.int (0 : Int32))), σ) := by
  refine (r_iconst (v := (0 : Int32)) (show decode (zb m_LL_sweetest) 21 = .ok (.iconst (0), 1) from by decide +kernel) (by decide)).trans ?_
  exact r_iret (show decode (zb m_LL_sweetest) 22 = .ok (.ireturn, 1) from by decide +kernel) rfl rfl
theorem x_LL_sweetest_0 {C : CF} {d : Nat} {σ : HP} {l0 l1 l2 l3 l4 : Option Value} {rest : List Value} : bk C d m_LL_sweetest 5 [l0, l1, l2, l3, l4] rest (some (.inr 0, σ)) = runF C d m_LL_sweetest (15, [l0, l1, l2, l3, none], [], σ) := bk_hnd (q := 15) (k := 4) rfl (by decide +kernel) rfl
theorem x_LL_sweetest_1 {C : CF} {d : Nat} {σ : HP} {l0 l1 l2 l3 l4 : Option Value} {rest : List Value} : bk C d m_LL_sweetest 5 [l0, l1, l2, l3, l4] rest (some (.inr 1, σ)) = runF C d m_LL_sweetest (19, [l0, l1, l2, l3, none], [], σ) := bk_hnd (q := 19) (k := 4) rfl (by decide +kernel) rfl
theorem e_LL_truest {d : Nat} {σ : HP} {a0 : Nat} {x1 : Int32} {x2 : Int32} {a3 : Nat} : callF (d + 1) m_LL_truest [.ref a0, .int x1, .int x2, .ref a3] σ = runF (callF d) d m_LL_truest (0, [some (.ref a0), some (.int x1), some (.int x2), some (.ref a3), none], [], σ) := callF_in rfl rfl
theorem b_LL_truest_0 {C : CF} {d : Nat} {σ : HP} {a3 : Nat} {a0 : Nat} {x1 : Int32} {x2 : Int32} {l4 : Option Value} (h1 : a0 % 64 = 11) : runF C d m_LL_truest (0, [some (.ref a0), some (.int x1), some (.int x2), some (.ref a3), l4], [], σ) = bk C d m_LL_truest 5 [some (.ref a0), some (.int x1), some (.int x2), some (.ref a3), l4] [.int ((0 : Int32)), .ref a3] (C m_PL_truest [.ref a0, .int x1, .int x2] σ) := by
  refine (r_aloadn 3 (show decode (zb m_LL_truest) 0 = .ok (.aload_n 3, 1) from by decide +kernel) rfl).trans ?_
  refine (r_iconst (v := (0 : Int32)) (show decode (zb m_LL_truest) 1 = .ok (.iconst (0), 1) from by decide +kernel) (by decide)).trans ?_
  refine (r_aloadn 0 (show decode (zb m_LL_truest) 2 = .ok (.aload_n 0, 1) from by decide +kernel) rfl).trans ?_
  refine (r_iloadn 1 (show decode (zb m_LL_truest) 3 = .ok (.iload_n 1, 1) from by decide +kernel) rfl).trans ?_
  refine (r_iloadn 2 (show decode (zb m_LL_truest) 4 = .ok (.iload_n 2, 1) from by decide +kernel) rfl).trans ?_
  exact r_virt (args := [.int x1, .int x2]) (rest := [.int ((0 : Int32)), .ref a3]) (show decode (zb m_LL_truest) 5 = .ok (.invokevirtual 87, 3) from by decide +kernel) rfl rfl rfl h1
theorem b_LL_truest_8 {C : CF} {d : Nat} {σ : HP} {s0 : Int32} {s1 : Int32} {r2 : Nat} {l0 : Option Value} {l1 : Option Value} {l2 : Option Value} {l3 : Option Value} {l4 : Option Value} (h1 : aty (r2 % 64) = 2) (h2 : inR s1 (alen (r2 % 64)) = true) : runF C d m_LL_truest (8, [l0, l1, l2, l3, l4], [.int s0, .int s1, .ref r2], σ) = runF C d m_LL_truest (21, [l0, l1, l2, l3, l4], [], wJ σ r2 (Int32.toNatClampNeg s1) (Int32.toInt64 s0)) := by
  refine (r_i2l (show decode (zb m_LL_truest) 8 = .ok (.i2l, 1) from by decide +kernel)).trans ?_
  refine (r_last (show decode (zb m_LL_truest) 9 = .ok (.lastore, 1) from by decide +kernel) h1 h2).trans ?_
  exact r_goto 21 (show decode (zb m_LL_truest) 10 = .ok (.goto (11), 3) from by decide +kernel) rfl
theorem b_LL_truest_15 {C : CF} {d : Nat} {σ : HP} {l0 : Option Value} {l1 : Option Value} {l2 : Option Value} {l3 : Option Value} {l4 : Option Value}  : runF C d m_LL_truest (15, [l0, l1, l2, l3, l4], [], σ) = some (.inl (some (.int (1 : Int32))), σ) := by
  refine (r_iconst (v := (1 : Int32)) (show decode (zb m_LL_truest) 15 = .ok (.iconst (1), 1) from by decide +kernel) (by decide)).trans ?_
  exact r_iret (show decode (zb m_LL_truest) 16 = .ok (.ireturn, 1) from by decide +kernel) rfl rfl
theorem b_LL_truest_19 {C : CF} {d : Nat} {σ : HP} {l0 : Option Value} {l1 : Option Value} {l2 : Option Value} {l3 : Option Value} {l4 : Option Value}  : runF C d m_LL_truest (19, [l0, l1, l2, l3, l4], [], σ) = some (.inl (some (.int (2 : Int32))), σ) := by
  refine (r_iconst (v := (2 : Int32)) (show decode (zb m_LL_truest) 19 = .ok (.iconst (2), 1) from by decide +kernel) (by decide)).trans ?_
  exact r_iret (show decode (zb m_LL_truest) 20 = .ok (.ireturn, 1) from by decide +kernel) rfl rfl
theorem b_LL_truest_21 {C : CF} {d : Nat} {σ : HP} {l0 : Option Value} {l1 : Option Value} {l2 : Option Value} {l3 : Option Value} {l4 : Option Value}  : runF C d m_LL_truest (21, [l0, l1, l2, l3, l4], [], σ) = some (.inl (some (.int (0 : Int32))), σ) := by
  refine (r_iconst (v := (0 : Int32)) (show decode (zb m_LL_truest) 21 = .ok (.iconst (0), 1) from by decide +kernel) (by decide)).trans ?_
  exact r_iret (show decode (zb m_LL_truest) 22 = .ok (.ireturn, 1) from by decide +kernel) rfl rfl
theorem x_LL_truest_0 {C : CF} {d : Nat} {σ : HP} {l0 l1 l2 l3 l4 : Option Value} {rest : List Value} : bk C d m_LL_truest 5 [l0, l1, l2, l3, l4] rest (some (.inr 0, σ)) = runF C d m_LL_truest (15, [l0, l1, l2, l3, none], [], σ) := bk_hnd (q := 15) (k := 4) rfl (by decide +kernel) rfl
theorem x_LL_truest_1 {C : CF} {d : Nat} {σ : HP} {l0 l1 l2 l3 l4 : Option Value} {rest : List Value} : bk C d m_LL_truest 5 [l0, l1, l2, l3, l4] rest (some (.inr 1, σ)) = runF C d m_LL_truest (19, [l0, l1, l2, l3, none], [], σ) := bk_hnd (q := 19) (k := 4) rfl (by decide +kernel) rfl
theorem e_LL_proud {d : Nat} {σ : HP} {a0 : Nat} {x1 : Int32} {a2 : Nat} : callF (d + 1) m_LL_proud [.ref a0, .int x1, .ref a2] σ = runF (callF d) d m_LL_proud (0, [some (.ref a0), some (.int x1), some (.ref a2), none], [], σ) := callF_in rfl rfl
theorem b_LL_proud_0 {C : CF} {d : Nat} {σ : HP} {a2 : Nat} {a0 : Nat} {x1 : Int32} {l3 : Option Value} (h1 : a0 % 64 = 11) : runF C d m_LL_proud (0, [some (.ref a0), some (.int x1), some (.ref a2), l3], [], σ) = bk C d m_LL_proud 4 [some (.ref a0), some (.int x1), some (.ref a2), l3] [.int ((0 : Int32)), .ref a2] (C m_PL_proud [.ref a0, .int x1] σ) := by
  refine (r_aloadn 2 (show decode (zb m_LL_proud) 0 = .ok (.aload_n 2, 1) from by decide +kernel) rfl).trans ?_
  refine (r_iconst (v := (0 : Int32)) (show decode (zb m_LL_proud) 1 = .ok (.iconst (0), 1) from by decide +kernel) (by decide)).trans ?_
  refine (r_aloadn 0 (show decode (zb m_LL_proud) 2 = .ok (.aload_n 0, 1) from by decide +kernel) rfl).trans ?_
  refine (r_iloadn 1 (show decode (zb m_LL_proud) 3 = .ok (.iload_n 1, 1) from by decide +kernel) rfl).trans ?_
  exact r_virt (args := [.int x1]) (rest := [.int ((0 : Int32)), .ref a2]) (show decode (zb m_LL_proud) 4 = .ok (.invokevirtual 90, 3) from by decide +kernel) rfl rfl rfl h1
theorem b_LL_proud_7 {C : CF} {d : Nat} {σ : HP} {s0 : Int32} {s1 : Int32} {r2 : Nat} {l0 : Option Value} {l1 : Option Value} {l2 : Option Value} {l3 : Option Value} (h1 : aty (r2 % 64) = 2) (h2 : inR s1 (alen (r2 % 64)) = true) : runF C d m_LL_proud (7, [l0, l1, l2, l3], [.int s0, .int s1, .ref r2], σ) = runF C d m_LL_proud (15, [l0, l1, l2, l3], [], wJ σ r2 (Int32.toNatClampNeg s1) (Int32.toInt64 s0)) := by
  refine (r_i2l (show decode (zb m_LL_proud) 7 = .ok (.i2l, 1) from by decide +kernel)).trans ?_
  refine (r_last (show decode (zb m_LL_proud) 8 = .ok (.lastore, 1) from by decide +kernel) h1 h2).trans ?_
  exact r_goto 15 (show decode (zb m_LL_proud) 9 = .ok (.goto (6), 3) from by decide +kernel) rfl
theorem b_LL_proud_13 {C : CF} {d : Nat} {σ : HP} {l0 : Option Value} {l1 : Option Value} {l2 : Option Value} {l3 : Option Value}  : runF C d m_LL_proud (13, [l0, l1, l2, l3], [], σ) = some (.inl (some (.int (1 : Int32))), σ) := by
  refine (r_iconst (v := (1 : Int32)) (show decode (zb m_LL_proud) 13 = .ok (.iconst (1), 1) from by decide +kernel) (by decide)).trans ?_
  exact r_iret (show decode (zb m_LL_proud) 14 = .ok (.ireturn, 1) from by decide +kernel) rfl rfl
theorem b_LL_proud_15 {C : CF} {d : Nat} {σ : HP} {l0 : Option Value} {l1 : Option Value} {l2 : Option Value} {l3 : Option Value}  : runF C d m_LL_proud (15, [l0, l1, l2, l3], [], σ) = some (.inl (some (.int (0 : Int32))), σ) := by
  refine (r_iconst (v := (0 : Int32)) (show decode (zb m_LL_proud) 15 = .ok (.iconst (0), 1) from by decide +kernel) (by decide)).trans ?_
  exact r_iret (show decode (zb m_LL_proud) 16 = .ok (.ireturn, 1) from by decide +kernel) rfl rfl
theorem x_LL_proud_1 {C : CF} {d : Nat} {σ : HP} {l0 l1 l2 l3 : Option Value} {rest : List Value} : bk C d m_LL_proud 4 [l0, l1, l2, l3] rest (some (.inr 1, σ)) = runF C d m_LL_proud (13, [l0, l1, l2, none], [], σ) := bk_hnd (q := 13) (k := 3) rfl (by decide +kernel) rfl
theorem e_LL_liked {d : Nat} {σ : HP} {a0 : Nat} {x1 : Int32} {a2 : Nat} : callF (d + 1) m_LL_liked [.ref a0, .int x1, .ref a2] σ = runF (callF d) d m_LL_liked (0, [some (.ref a0), some (.int x1), some (.ref a2), none], [], σ) := callF_in rfl rfl
theorem b_LL_liked_0 {C : CF} {d : Nat} {σ : HP} {a2 : Nat} {a0 : Nat} {x1 : Int32} {l3 : Option Value} (h1 : a0 % 64 = 11) : runF C d m_LL_liked (0, [some (.ref a0), some (.int x1), some (.ref a2), l3], [], σ) = bk C d m_LL_liked 4 [some (.ref a0), some (.int x1), some (.ref a2), l3] [.int ((0 : Int32)), .ref a2] (C m_PL_liked [.ref a0, .int x1] σ) := by
  refine (r_aloadn 2 (show decode (zb m_LL_liked) 0 = .ok (.aload_n 2, 1) from by decide +kernel) rfl).trans ?_
  refine (r_iconst (v := (0 : Int32)) (show decode (zb m_LL_liked) 1 = .ok (.iconst (0), 1) from by decide +kernel) (by decide)).trans ?_
  refine (r_aloadn 0 (show decode (zb m_LL_liked) 2 = .ok (.aload_n 0, 1) from by decide +kernel) rfl).trans ?_
  refine (r_iloadn 1 (show decode (zb m_LL_liked) 3 = .ok (.iload_n 1, 1) from by decide +kernel) rfl).trans ?_
  exact r_virt (args := [.int x1]) (rest := [.int ((0 : Int32)), .ref a2]) (show decode (zb m_LL_liked) 4 = .ok (.invokevirtual 93, 3) from by decide +kernel) rfl rfl rfl h1
theorem b_LL_liked_7 {C : CF} {d : Nat} {σ : HP} {s0 : Int32} {s1 : Int32} {r2 : Nat} {l0 : Option Value} {l1 : Option Value} {l2 : Option Value} {l3 : Option Value} (h1 : aty (r2 % 64) = 2) (h2 : inR s1 (alen (r2 % 64)) = true) : runF C d m_LL_liked (7, [l0, l1, l2, l3], [.int s0, .int s1, .ref r2], σ) = runF C d m_LL_liked (15, [l0, l1, l2, l3], [], wJ σ r2 (Int32.toNatClampNeg s1) (Int32.toInt64 s0)) := by
  refine (r_i2l (show decode (zb m_LL_liked) 7 = .ok (.i2l, 1) from by decide +kernel)).trans ?_
  refine (r_last (show decode (zb m_LL_liked) 8 = .ok (.lastore, 1) from by decide +kernel) h1 h2).trans ?_
  exact r_goto 15 (show decode (zb m_LL_liked) 9 = .ok (.goto (6), 3) from by decide +kernel) rfl
theorem b_LL_liked_13 {C : CF} {d : Nat} {σ : HP} {l0 : Option Value} {l1 : Option Value} {l2 : Option Value} {l3 : Option Value}  : runF C d m_LL_liked (13, [l0, l1, l2, l3], [], σ) = some (.inl (some (.int (1 : Int32))), σ) := by
  refine (r_iconst (v := (1 : Int32)) (show decode (zb m_LL_liked) 13 = .ok (.iconst (1), 1) from by decide +kernel) (by decide)).trans ?_
  exact r_iret (show decode (zb m_LL_liked) 14 = .ok (.ireturn, 1) from by decide +kernel) rfl rfl
theorem b_LL_liked_15 {C : CF} {d : Nat} {σ : HP} {l0 : Option Value} {l1 : Option Value} {l2 : Option Value} {l3 : Option Value}  : runF C d m_LL_liked (15, [l0, l1, l2, l3], [], σ) = some (.inl (some (.int (0 : Int32))), σ) := by
  refine (r_iconst (v := (0 : Int32)) (show decode (zb m_LL_liked) 15 = .ok (.iconst (0), 1) from by decide +kernel) (by decide)).trans ?_
  exact r_iret (show decode (zb m_LL_liked) 16 = .ok (.ireturn, 1) from by decide +kernel) rfl rfl
theorem x_LL_liked_0 {C : CF} {d : Nat} {σ : HP} {l0 l1 l2 l3 : Option Value} {rest : List Value} : bk C d m_LL_liked 4 [l0, l1, l2, l3] rest (some (.inr 0, σ)) = runF C d m_LL_liked (13, [l0, l1, l2, none], [], σ) := bk_hnd (q := 13) (k := 3) rfl (by decide +kernel) rfl
theorem e_LL_above {d : Nat} {σ : HP} {a0 : Nat} {x1 : Int32} {a2 : Nat} : callF (d + 1) m_LL_above [.ref a0, .int x1, .ref a2] σ = runF (callF d) d m_LL_above (0, [some (.ref a0), some (.int x1), some (.ref a2), none], [], σ) := callF_in rfl rfl
theorem b_LL_above_0 {C : CF} {d : Nat} {σ : HP} {a2 : Nat} {a0 : Nat} {x1 : Int32} {l3 : Option Value} (h1 : a0 % 64 = 11) : runF C d m_LL_above (0, [some (.ref a0), some (.int x1), some (.ref a2), l3], [], σ) = bk C d m_LL_above 4 [some (.ref a0), some (.int x1), some (.ref a2), l3] [.int ((0 : Int32)), .ref a2] (C m_PL_above [.ref a0, .int x1] σ) := by
  refine (r_aloadn 2 (show decode (zb m_LL_above) 0 = .ok (.aload_n 2, 1) from by decide +kernel) rfl).trans ?_
  refine (r_iconst (v := (0 : Int32)) (show decode (zb m_LL_above) 1 = .ok (.iconst (0), 1) from by decide +kernel) (by decide)).trans ?_
  refine (r_aloadn 0 (show decode (zb m_LL_above) 2 = .ok (.aload_n 0, 1) from by decide +kernel) rfl).trans ?_
  refine (r_iloadn 1 (show decode (zb m_LL_above) 3 = .ok (.iload_n 1, 1) from by decide +kernel) rfl).trans ?_
  exact r_virt (args := [.int x1]) (rest := [.int ((0 : Int32)), .ref a2]) (show decode (zb m_LL_above) 4 = .ok (.invokevirtual 96, 3) from by decide +kernel) rfl rfl rfl h1
theorem b_LL_above_7 {C : CF} {d : Nat} {σ : HP} {s0 : Int32} {s1 : Int32} {r2 : Nat} {l0 : Option Value} {l1 : Option Value} {l2 : Option Value} {l3 : Option Value} (h1 : aty (r2 % 64) = 2) (h2 : inR s1 (alen (r2 % 64)) = true) : runF C d m_LL_above (7, [l0, l1, l2, l3], [.int s0, .int s1, .ref r2], σ) = runF C d m_LL_above (15, [l0, l1, l2, l3], [], wJ σ r2 (Int32.toNatClampNeg s1) (Int32.toInt64 s0)) := by
  refine (r_i2l (show decode (zb m_LL_above) 7 = .ok (.i2l, 1) from by decide +kernel)).trans ?_
  refine (r_last (show decode (zb m_LL_above) 8 = .ok (.lastore, 1) from by decide +kernel) h1 h2).trans ?_
  exact r_goto 15 (show decode (zb m_LL_above) 9 = .ok (.goto (6), 3) from by decide +kernel) rfl
theorem b_LL_above_13 {C : CF} {d : Nat} {σ : HP} {l0 : Option Value} {l1 : Option Value} {l2 : Option Value} {l3 : Option Value}  : runF C d m_LL_above (13, [l0, l1, l2, l3], [], σ) = some (.inl (some (.int (1 : Int32))), σ) := by
  refine (r_iconst (v := (1 : Int32)) (show decode (zb m_LL_above) 13 = .ok (.iconst (1), 1) from by decide +kernel) (by decide)).trans ?_
  exact r_iret (show decode (zb m_LL_above) 14 = .ok (.ireturn, 1) from by decide +kernel) rfl rfl
theorem b_LL_above_15 {C : CF} {d : Nat} {σ : HP} {l0 : Option Value} {l1 : Option Value} {l2 : Option Value} {l3 : Option Value}  : runF C d m_LL_above (15, [l0, l1, l2, l3], [], σ) = some (.inl (some (.int (0 : Int32))), σ) := by
  refine (r_iconst (v := (0 : Int32)) (show decode (zb m_LL_above) 15 = .ok (.iconst (0), 1) from by decide +kernel) (by decide)).trans ?_
  exact r_iret (show decode (zb m_LL_above) 16 = .ok (.ireturn, 1) from by decide +kernel) rfl rfl
theorem x_LL_above_0 {C : CF} {d : Nat} {σ : HP} {l0 l1 l2 l3 : Option Value} {rest : List Value} : bk C d m_LL_above 4 [l0, l1, l2, l3] rest (some (.inr 0, σ)) = runF C d m_LL_above (13, [l0, l1, l2, none], [], σ) := bk_hnd (q := 13) (k := 3) rfl (by decide +kernel) rfl
theorem e_LL_ride {d : Nat} {σ : HP} {a0 : Nat} {x1 : Int32} {a2 : Nat} : callF (d + 1) m_LL_ride [.ref a0, .int x1, .ref a2] σ = runF (callF d) d m_LL_ride (0, [some (.ref a0), some (.int x1), some (.ref a2), none], [], σ) := callF_in rfl rfl
theorem b_LL_ride_0 {C : CF} {d : Nat} {σ : HP} {a2 : Nat} {a0 : Nat} {x1 : Int32} {l3 : Option Value} (h1 : a0 % 64 = 11) : runF C d m_LL_ride (0, [some (.ref a0), some (.int x1), some (.ref a2), l3], [], σ) = bk C d m_LL_ride 4 [some (.ref a0), some (.int x1), some (.ref a2), l3] [.int ((0 : Int32)), .ref a2] (C m_PL_ride [.ref a0, .int x1] σ) := by
  refine (r_aloadn 2 (show decode (zb m_LL_ride) 0 = .ok (.aload_n 2, 1) from by decide +kernel) rfl).trans ?_
  refine (r_iconst (v := (0 : Int32)) (show decode (zb m_LL_ride) 1 = .ok (.iconst (0), 1) from by decide +kernel) (by decide)).trans ?_
  refine (r_aloadn 0 (show decode (zb m_LL_ride) 2 = .ok (.aload_n 0, 1) from by decide +kernel) rfl).trans ?_
  refine (r_iloadn 1 (show decode (zb m_LL_ride) 3 = .ok (.iload_n 1, 1) from by decide +kernel) rfl).trans ?_
  exact r_virt (args := [.int x1]) (rest := [.int ((0 : Int32)), .ref a2]) (show decode (zb m_LL_ride) 4 = .ok (.invokevirtual 99, 3) from by decide +kernel) rfl rfl rfl h1
theorem b_LL_ride_7 {C : CF} {d : Nat} {σ : HP} {s0 : Int32} {s1 : Int32} {r2 : Nat} {l0 : Option Value} {l1 : Option Value} {l2 : Option Value} {l3 : Option Value} (h1 : aty (r2 % 64) = 2) (h2 : inR s1 (alen (r2 % 64)) = true) : runF C d m_LL_ride (7, [l0, l1, l2, l3], [.int s0, .int s1, .ref r2], σ) = runF C d m_LL_ride (15, [l0, l1, l2, l3], [], wJ σ r2 (Int32.toNatClampNeg s1) (Int32.toInt64 s0)) := by
  refine (r_i2l (show decode (zb m_LL_ride) 7 = .ok (.i2l, 1) from by decide +kernel)).trans ?_
  refine (r_last (show decode (zb m_LL_ride) 8 = .ok (.lastore, 1) from by decide +kernel) h1 h2).trans ?_
  exact r_goto 15 (show decode (zb m_LL_ride) 9 = .ok (.goto (6), 3) from by decide +kernel) rfl
theorem b_LL_ride_13 {C : CF} {d : Nat} {σ : HP} {l0 : Option Value} {l1 : Option Value} {l2 : Option Value} {l3 : Option Value}  : runF C d m_LL_ride (13, [l0, l1, l2, l3], [], σ) = some (.inl (some (.int (1 : Int32))), σ) := by
  refine (r_iconst (v := (1 : Int32)) (show decode (zb m_LL_ride) 13 = .ok (.iconst (1), 1) from by decide +kernel) (by decide)).trans ?_
  exact r_iret (show decode (zb m_LL_ride) 14 = .ok (.ireturn, 1) from by decide +kernel) rfl rfl
theorem b_LL_ride_15 {C : CF} {d : Nat} {σ : HP} {l0 : Option Value} {l1 : Option Value} {l2 : Option Value} {l3 : Option Value}  : runF C d m_LL_ride (15, [l0, l1, l2, l3], [], σ) = some (.inl (some (.int (0 : Int32))), σ) := by
  refine (r_iconst (v := (0 : Int32)) (show decode (zb m_LL_ride) 15 = .ok (.iconst (0), 1) from by decide +kernel) (by decide)).trans ?_
  exact r_iret (show decode (zb m_LL_ride) 16 = .ok (.ireturn, 1) from by decide +kernel) rfl rfl
theorem x_LL_ride_1 {C : CF} {d : Nat} {σ : HP} {l0 l1 l2 l3 : Option Value} {rest : List Value} : bk C d m_LL_ride 4 [l0, l1, l2, l3] rest (some (.inr 1, σ)) = runF C d m_LL_ride (13, [l0, l1, l2, none], [], σ) := bk_hnd (q := 13) (k := 3) rfl (by decide +kernel) rfl
theorem e_LL_times {d : Nat} {σ : HP} {a0 : Nat} {x1 : Int32} {x2 : Int32} {x3 : Int32} {a4 : Nat} : callF (d + 1) m_LL_times [.ref a0, .int x1, .int x2, .int x3, .ref a4] σ = runF (callF d) d m_LL_times (0, [some (.ref a0), some (.int x1), some (.int x2), some (.int x3), some (.ref a4), none], [], σ) := callF_in rfl rfl
theorem b_LL_times_0 {C : CF} {d : Nat} {σ : HP} {a4 : Nat} {a0 : Nat} {x1 : Int32} {x2 : Int32} {x3 : Int32} {l5 : Option Value} (h1 : a0 % 64 = 11) : runF C d m_LL_times (0, [some (.ref a0), some (.int x1), some (.int x2), some (.int x3), some (.ref a4), l5], [], σ) = bk C d m_LL_times 7 [some (.ref a0), some (.int x1), some (.int x2), some (.int x3), some (.ref a4), l5] [.int ((0 : Int32)), .ref a4] (C m_PL_times [.ref a0, .int x1, .int x2, .int x3] σ) := by
  refine (r_aload 4 (show decode (zb m_LL_times) 0 = .ok (.aload 4, 2) from by decide +kernel) rfl).trans ?_
  refine (r_iconst (v := (0 : Int32)) (show decode (zb m_LL_times) 2 = .ok (.iconst (0), 1) from by decide +kernel) (by decide)).trans ?_
  refine (r_aloadn 0 (show decode (zb m_LL_times) 3 = .ok (.aload_n 0, 1) from by decide +kernel) rfl).trans ?_
  refine (r_iloadn 1 (show decode (zb m_LL_times) 4 = .ok (.iload_n 1, 1) from by decide +kernel) rfl).trans ?_
  refine (r_iloadn 2 (show decode (zb m_LL_times) 5 = .ok (.iload_n 2, 1) from by decide +kernel) rfl).trans ?_
  refine (r_iloadn 3 (show decode (zb m_LL_times) 6 = .ok (.iload_n 3, 1) from by decide +kernel) rfl).trans ?_
  exact r_virt (args := [.int x1, .int x2, .int x3]) (rest := [.int ((0 : Int32)), .ref a4]) (show decode (zb m_LL_times) 7 = .ok (.invokevirtual 102, 3) from by decide +kernel) rfl rfl rfl h1
theorem b_LL_times_10 {C : CF} {d : Nat} {σ : HP} {s0 : Int32} {s1 : Int32} {r2 : Nat} {l0 : Option Value} {l1 : Option Value} {l2 : Option Value} {l3 : Option Value} {l4 : Option Value} {l5 : Option Value} (h1 : aty (r2 % 64) = 2) (h2 : inR s1 (alen (r2 % 64)) = true) : runF C d m_LL_times (10, [l0, l1, l2, l3, l4, l5], [.int s0, .int s1, .ref r2], σ) = runF C d m_LL_times (23, [l0, l1, l2, l3, l4, l5], [], wJ σ r2 (Int32.toNatClampNeg s1) (Int32.toInt64 s0)) := by
  refine (r_i2l (show decode (zb m_LL_times) 10 = .ok (.i2l, 1) from by decide +kernel)).trans ?_
  refine (r_last (show decode (zb m_LL_times) 11 = .ok (.lastore, 1) from by decide +kernel) h1 h2).trans ?_
  exact r_goto 23 (show decode (zb m_LL_times) 12 = .ok (.goto (11), 3) from by decide +kernel) rfl
theorem b_LL_times_17 {C : CF} {d : Nat} {σ : HP} {l0 : Option Value} {l1 : Option Value} {l2 : Option Value} {l3 : Option Value} {l4 : Option Value} {l5 : Option Value}  : runF C d m_LL_times (17, [l0, l1, l2, l3, l4, l5], [], σ) = some (.inl (some (.int (1 : Int32))), σ) := by
  refine (r_iconst (v := (1 : Int32)) (show decode (zb m_LL_times) 17 = .ok (.iconst (1), 1) from by decide +kernel) (by decide)).trans ?_
  exact r_iret (show decode (zb m_LL_times) 18 = .ok (.ireturn, 1) from by decide +kernel) rfl rfl
theorem b_LL_times_21 {C : CF} {d : Nat} {σ : HP} {l0 : Option Value} {l1 : Option Value} {l2 : Option Value} {l3 : Option Value} {l4 : Option Value} {l5 : Option Value}  : runF C d m_LL_times (21, [l0, l1, l2, l3, l4, l5], [], σ) = some (.inl (some (.int (2 : Int32))), σ) := by
  refine (r_iconst (v := (2 : Int32)) (show decode (zb m_LL_times) 21 = .ok (.iconst (2), 1) from by decide +kernel) (by decide)).trans ?_
  exact r_iret (show decode (zb m_LL_times) 22 = .ok (.ireturn, 1) from by decide +kernel) rfl rfl
theorem b_LL_times_23 {C : CF} {d : Nat} {σ : HP} {l0 : Option Value} {l1 : Option Value} {l2 : Option Value} {l3 : Option Value} {l4 : Option Value} {l5 : Option Value}  : runF C d m_LL_times (23, [l0, l1, l2, l3, l4, l5], [], σ) = some (.inl (some (.int (0 : Int32))), σ) := by
  refine (r_iconst (v := (0 : Int32)) (show decode (zb m_LL_times) 23 = .ok (.iconst (0), 1) from by decide +kernel) (by decide)).trans ?_
  exact r_iret (show decode (zb m_LL_times) 24 = .ok (.ireturn, 1) from by decide +kernel) rfl rfl
theorem x_LL_times_0 {C : CF} {d : Nat} {σ : HP} {l0 l1 l2 l3 l4 l5 : Option Value} {rest : List Value} : bk C d m_LL_times 7 [l0, l1, l2, l3, l4, l5] rest (some (.inr 0, σ)) = runF C d m_LL_times (17, [l0, l1, l2, l3, l4, none], [], σ) := bk_hnd (q := 17) (k := 5) rfl (by decide +kernel) rfl
theorem x_LL_times_1 {C : CF} {d : Nat} {σ : HP} {l0 l1 l2 l3 l4 l5 : Option Value} {rest : List Value} : bk C d m_LL_times 7 [l0, l1, l2, l3, l4, l5] rest (some (.inr 1, σ)) = runF C d m_LL_times (21, [l0, l1, l2, l3, l4, none], [], σ) := bk_hnd (q := 21) (k := 5) rfl (by decide +kernel) rfl
theorem e_LL_week {d : Nat} {σ : HP} {a0 : Nat} {x1 : Int32} {x2 : Int32} {x3 : Int32} {x4 : Int32} {a5 : Nat} : callF (d + 1) m_LL_week [.ref a0, .int x1, .int x2, .int x3, .int x4, .ref a5] σ = runF (callF d) d m_LL_week (0, [some (.ref a0), some (.int x1), some (.int x2), some (.int x3), some (.int x4), some (.ref a5), none], [], σ) := callF_in rfl rfl
theorem b_LL_week_0 {C : CF} {d : Nat} {σ : HP} {a5 : Nat} {a0 : Nat} {x1 : Int32} {x2 : Int32} {x3 : Int32} {x4 : Int32} {l6 : Option Value} (h1 : a0 % 64 = 11) : runF C d m_LL_week (0, [some (.ref a0), some (.int x1), some (.int x2), some (.int x3), some (.int x4), some (.ref a5), l6], [], σ) = bk C d m_LL_week 9 [some (.ref a0), some (.int x1), some (.int x2), some (.int x3), some (.int x4), some (.ref a5), l6] [.int ((0 : Int32)), .ref a5] (C m_PL_week [.ref a0, .int x1, .int x2, .int x3, .int x4] σ) := by
  refine (r_aload 5 (show decode (zb m_LL_week) 0 = .ok (.aload 5, 2) from by decide +kernel) rfl).trans ?_
  refine (r_iconst (v := (0 : Int32)) (show decode (zb m_LL_week) 2 = .ok (.iconst (0), 1) from by decide +kernel) (by decide)).trans ?_
  refine (r_aloadn 0 (show decode (zb m_LL_week) 3 = .ok (.aload_n 0, 1) from by decide +kernel) rfl).trans ?_
  refine (r_iloadn 1 (show decode (zb m_LL_week) 4 = .ok (.iload_n 1, 1) from by decide +kernel) rfl).trans ?_
  refine (r_iloadn 2 (show decode (zb m_LL_week) 5 = .ok (.iload_n 2, 1) from by decide +kernel) rfl).trans ?_
  refine (r_iloadn 3 (show decode (zb m_LL_week) 6 = .ok (.iload_n 3, 1) from by decide +kernel) rfl).trans ?_
  refine (r_iload 4 (show decode (zb m_LL_week) 7 = .ok (.iload 4, 2) from by decide +kernel) rfl).trans ?_
  exact r_virt (args := [.int x1, .int x2, .int x3, .int x4]) (rest := [.int ((0 : Int32)), .ref a5]) (show decode (zb m_LL_week) 9 = .ok (.invokevirtual 105, 3) from by decide +kernel) rfl rfl rfl h1
theorem b_LL_week_12 {C : CF} {d : Nat} {σ : HP} {s0 : Int32} {s1 : Int32} {r2 : Nat} {l0 : Option Value} {l1 : Option Value} {l2 : Option Value} {l3 : Option Value} {l4 : Option Value} {l5 : Option Value} {l6 : Option Value} (h1 : aty (r2 % 64) = 2) (h2 : inR s1 (alen (r2 % 64)) = true) : runF C d m_LL_week (12, [l0, l1, l2, l3, l4, l5, l6], [.int s0, .int s1, .ref r2], σ) = runF C d m_LL_week (21, [l0, l1, l2, l3, l4, l5, l6], [], wJ σ r2 (Int32.toNatClampNeg s1) (Int32.toInt64 s0)) := by
  refine (r_i2l (show decode (zb m_LL_week) 12 = .ok (.i2l, 1) from by decide +kernel)).trans ?_
  refine (r_last (show decode (zb m_LL_week) 13 = .ok (.lastore, 1) from by decide +kernel) h1 h2).trans ?_
  exact r_goto 21 (show decode (zb m_LL_week) 14 = .ok (.goto (7), 3) from by decide +kernel) rfl
theorem b_LL_week_19 {C : CF} {d : Nat} {σ : HP} {l0 : Option Value} {l1 : Option Value} {l2 : Option Value} {l3 : Option Value} {l4 : Option Value} {l5 : Option Value} {l6 : Option Value}  : runF C d m_LL_week (19, [l0, l1, l2, l3, l4, l5, l6], [], σ) = some (.inl (some (.int (1 : Int32))), σ) := by
  refine (r_iconst (v := (1 : Int32)) (show decode (zb m_LL_week) 19 = .ok (.iconst (1), 1) from by decide +kernel) (by decide)).trans ?_
  exact r_iret (show decode (zb m_LL_week) 20 = .ok (.ireturn, 1) from by decide +kernel) rfl rfl
theorem b_LL_week_21 {C : CF} {d : Nat} {σ : HP} {l0 : Option Value} {l1 : Option Value} {l2 : Option Value} {l3 : Option Value} {l4 : Option Value} {l5 : Option Value} {l6 : Option Value}  : runF C d m_LL_week (21, [l0, l1, l2, l3, l4, l5, l6], [], σ) = some (.inl (some (.int (0 : Int32))), σ) := by
  refine (r_iconst (v := (0 : Int32)) (show decode (zb m_LL_week) 21 = .ok (.iconst (0), 1) from by decide +kernel) (by decide)).trans ?_
  exact r_iret (show decode (zb m_LL_week) 22 = .ok (.ireturn, 1) from by decide +kernel) rfl rfl
theorem x_LL_week_1 {C : CF} {d : Nat} {σ : HP} {l0 l1 l2 l3 l4 l5 l6 : Option Value} {rest : List Value} : bk C d m_LL_week 9 [l0, l1, l2, l3, l4, l5, l6] rest (some (.inr 1, σ)) = runF C d m_LL_week (19, [l0, l1, l2, l3, l4, l5, none], [], σ) := bk_hnd (q := 19) (k := 6) rfl (by decide +kernel) rfl
theorem e_LL_span {d : Nat} {σ : HP} {a0 : Nat} {x1 : Int32} {x2 : Int32} {x3 : Int32} {x4 : Int32} {x5 : Int32} {x6 : Int32} {a7 : Nat} : callF (d + 1) m_LL_span [.ref a0, .int x1, .int x2, .int x3, .int x4, .int x5, .int x6, .ref a7] σ = runF (callF d) d m_LL_span (0, [some (.ref a0), some (.int x1), some (.int x2), some (.int x3), some (.int x4), some (.int x5), some (.int x6), some (.ref a7), none], [], σ) := callF_in rfl rfl
theorem b_LL_span_0 {C : CF} {d : Nat} {σ : HP} {a7 : Nat} {a0 : Nat} {x1 : Int32} {x2 : Int32} {x3 : Int32} {x4 : Int32} {x5 : Int32} {x6 : Int32} {l8 : Option Value} (h1 : a0 % 64 = 11) : runF C d m_LL_span (0, [some (.ref a0), some (.int x1), some (.int x2), some (.int x3), some (.int x4), some (.int x5), some (.int x6), some (.ref a7), l8], [], σ) = bk C d m_LL_span 13 [some (.ref a0), some (.int x1), some (.int x2), some (.int x3), some (.int x4), some (.int x5), some (.int x6), some (.ref a7), l8] [.int ((0 : Int32)), .ref a7] (C m_PL_span [.ref a0, .int x1, .int x2, .int x3, .int x4, .int x5, .int x6] σ) := by
  refine (r_aload 7 (show decode (zb m_LL_span) 0 = .ok (.aload 7, 2) from by decide +kernel) rfl).trans ?_
  refine (r_iconst (v := (0 : Int32)) (show decode (zb m_LL_span) 2 = .ok (.iconst (0), 1) from by decide +kernel) (by decide)).trans ?_
  refine (r_aloadn 0 (show decode (zb m_LL_span) 3 = .ok (.aload_n 0, 1) from by decide +kernel) rfl).trans ?_
  refine (r_iloadn 1 (show decode (zb m_LL_span) 4 = .ok (.iload_n 1, 1) from by decide +kernel) rfl).trans ?_
  refine (r_iloadn 2 (show decode (zb m_LL_span) 5 = .ok (.iload_n 2, 1) from by decide +kernel) rfl).trans ?_
  refine (r_iloadn 3 (show decode (zb m_LL_span) 6 = .ok (.iload_n 3, 1) from by decide +kernel) rfl).trans ?_
  refine (r_iload 4 (show decode (zb m_LL_span) 7 = .ok (.iload 4, 2) from by decide +kernel) rfl).trans ?_
  refine (r_iload 5 (show decode (zb m_LL_span) 9 = .ok (.iload 5, 2) from by decide +kernel) rfl).trans ?_
  refine (r_iload 6 (show decode (zb m_LL_span) 11 = .ok (.iload 6, 2) from by decide +kernel) rfl).trans ?_
  exact r_virt (args := [.int x1, .int x2, .int x3, .int x4, .int x5, .int x6]) (rest := [.int ((0 : Int32)), .ref a7]) (show decode (zb m_LL_span) 13 = .ok (.invokevirtual 109, 3) from by decide +kernel) rfl rfl rfl h1
theorem b_LL_span_16 {C : CF} {d : Nat} {σ : HP} {s0 : Int32} {s1 : Int32} {r2 : Nat} {l0 : Option Value} {l1 : Option Value} {l2 : Option Value} {l3 : Option Value} {l4 : Option Value} {l5 : Option Value} {l6 : Option Value} {l7 : Option Value} {l8 : Option Value} (h1 : aty (r2 % 64) = 2) (h2 : inR s1 (alen (r2 % 64)) = true) : runF C d m_LL_span (16, [l0, l1, l2, l3, l4, l5, l6, l7, l8], [.int s0, .int s1, .ref r2], σ) = runF C d m_LL_span (25, [l0, l1, l2, l3, l4, l5, l6, l7, l8], [], wJ σ r2 (Int32.toNatClampNeg s1) (Int32.toInt64 s0)) := by
  refine (r_i2l (show decode (zb m_LL_span) 16 = .ok (.i2l, 1) from by decide +kernel)).trans ?_
  refine (r_last (show decode (zb m_LL_span) 17 = .ok (.lastore, 1) from by decide +kernel) h1 h2).trans ?_
  exact r_goto 25 (show decode (zb m_LL_span) 18 = .ok (.goto (7), 3) from by decide +kernel) rfl
theorem b_LL_span_23 {C : CF} {d : Nat} {σ : HP} {l0 : Option Value} {l1 : Option Value} {l2 : Option Value} {l3 : Option Value} {l4 : Option Value} {l5 : Option Value} {l6 : Option Value} {l7 : Option Value} {l8 : Option Value}  : runF C d m_LL_span (23, [l0, l1, l2, l3, l4, l5, l6, l7, l8], [], σ) = some (.inl (some (.int (1 : Int32))), σ) := by
  refine (r_iconst (v := (1 : Int32)) (show decode (zb m_LL_span) 23 = .ok (.iconst (1), 1) from by decide +kernel) (by decide)).trans ?_
  exact r_iret (show decode (zb m_LL_span) 24 = .ok (.ireturn, 1) from by decide +kernel) rfl rfl
theorem b_LL_span_25 {C : CF} {d : Nat} {σ : HP} {l0 : Option Value} {l1 : Option Value} {l2 : Option Value} {l3 : Option Value} {l4 : Option Value} {l5 : Option Value} {l6 : Option Value} {l7 : Option Value} {l8 : Option Value}  : runF C d m_LL_span (25, [l0, l1, l2, l3, l4, l5, l6, l7, l8], [], σ) = some (.inl (some (.int (0 : Int32))), σ) := by
  refine (r_iconst (v := (0 : Int32)) (show decode (zb m_LL_span) 25 = .ok (.iconst (0), 1) from by decide +kernel) (by decide)).trans ?_
  exact r_iret (show decode (zb m_LL_span) 26 = .ok (.ireturn, 1) from by decide +kernel) rfl rfl
theorem x_LL_span_1 {C : CF} {d : Nat} {σ : HP} {l0 l1 l2 l3 l4 l5 l6 l7 l8 : Option Value} {rest : List Value} : bk C d m_LL_span 13 [l0, l1, l2, l3, l4, l5, l6, l7, l8] rest (some (.inr 1, σ)) = runF C d m_LL_span (23, [l0, l1, l2, l3, l4, l5, l6, l7, none], [], σ) := bk_hnd (q := 23) (k := 8) rfl (by decide +kernel) rfl
theorem e_LL_lawz {d : Nat} {σ : HP} : callF (d + 1) m_LL_lawz [.ref 18] σ = runF (callF d) d m_LL_lawz (0, [some (.ref 18), none, none, none, none, none, none, none], [], σ) := callF_in rfl rfl
theorem b_LL_lawz_0 {C : CF} {d : Nat} {σ : HP} {l0 : Option Value} {l1 : Option Value} {l2 : Option Value} {l3 : Option Value} {l4 : Option Value} {l5 : Option Value} {l6 : Option Value} {l7 : Option Value}  : runF C d m_LL_lawz (0, [l0, l1, l2, l3, l4, l5, l6, l7], [], σ) = bkN C d m_LL_lawz 4 [l0, l1, l2, l3, l4, l5, l6, l7] [.ref (11 + 64 * hN σ)] (C m_PL_init [.ref (11 + 64 * hN σ)] (hA σ 11 15)) := by
  refine (r_new (ci := 11) (show decode (zb m_LL_lawz) 0 = .ok (.new 8, 3) from by decide +kernel) rfl).trans ?_
  refine (r_dupR (show decode (zb m_LL_lawz) 3 = .ok (.dup, 1) from by decide +kernel)).trans ?_
  exact r_spec (args := []) (rest := [.ref (11 + 64 * hN σ)]) (show decode (zb m_LL_lawz) 4 = .ok (.invokespecial 113, 3) from by decide +kernel) rfl (by decide) rfl rfl (show (11 + 64 * hN σ) % 64 = 11 from by omega)
theorem b_LL_lawz_7 {C : CF} {d : Nat} {σ : HP} {r0 : Nat} {l0 : Option Value} {l1 : Option Value} {l2 : Option Value} {l3 : Option Value} {l4 : Option Value} {l5 : Option Value} {l6 : Option Value} {l7 : Option Value}  : runF C d m_LL_lawz (7, [l0, l1, l2, l3, l4, l5, l6, l7], [.ref r0], σ) = bkN C d m_LL_lawz 12 [l0, some (.ref r0), l2, l3, l4, l5, l6, l7] [.ref (12 + 64 * hN σ)] (C m_Mo_init [.ref (12 + 64 * hN σ)] (hA σ 12 51)) := by
  refine (r_astoren 1 (show decode (zb m_LL_lawz) 7 = .ok (.astore_n 1, 1) from by decide +kernel) rfl).trans ?_
  refine (r_new (ci := 12) (show decode (zb m_LL_lawz) 8 = .ok (.new 114, 3) from by decide +kernel) rfl).trans ?_
  refine (r_dupR (show decode (zb m_LL_lawz) 11 = .ok (.dup, 1) from by decide +kernel)).trans ?_
  exact r_spec (args := []) (rest := [.ref (12 + 64 * hN σ)]) (show decode (zb m_LL_lawz) 12 = .ok (.invokespecial 116, 3) from by decide +kernel) rfl (by decide) rfl rfl (show (12 + 64 * hN σ) % 64 = 12 from by omega)
theorem b_LL_lawz_15 {C : CF} {d : Nat} {σ : HP} {r0 : Nat} {l0 : Option Value} {l1 : Option Value} {l2 : Option Value} {l3 : Option Value} {l4 : Option Value} {l5 : Option Value} {l6 : Option Value} {l7 : Option Value}  : runF C d m_LL_lawz (15, [l0, l1, l2, l3, l4, l5, l6, l7], [.ref r0], σ) = runF C d m_LL_lawz (23, [l0, l1, some (.ref r0), some (.ref (34 + 64 * hN σ)), some (.int ((0 : Int32))), l5, l6, l7], [], hA σ 34 1) := by
  refine (r_astoren 2 (show decode (zb m_LL_lawz) 15 = .ok (.astore_n 2, 1) from by decide +kernel) rfl).trans ?_
  refine (r_iconst (v := (1 : Int32)) (show decode (zb m_LL_lawz) 16 = .ok (.iconst (1), 1) from by decide +kernel) (by decide)).trans ?_
  refine (r_arrJ (k := 34) (show decode (zb m_LL_lawz) 17 = .ok (.newarray .long, 2) from by decide +kernel) (by decide) (by decide)).trans ?_
  refine (r_astoren 3 (show decode (zb m_LL_lawz) 19 = .ok (.astore_n 3, 1) from by decide +kernel) rfl).trans ?_
  refine (r_iconst (v := (0 : Int32)) (show decode (zb m_LL_lawz) 20 = .ok (.iconst (0), 1) from by decide +kernel) (by decide)).trans ?_
  exact r_istore 4 (show decode (zb m_LL_lawz) 21 = .ok (.istore 4, 2) from by decide +kernel) rfl
theorem b_LL_lawz_23 {C : CF} {d : Nat} {σ : HP} {x4 : Int32} {l1 : Option Value} {l2 : Option Value} {l3 : Option Value} {l5 : Option Value} {l6 : Option Value} {l7 : Option Value}  : runF C d m_LL_lawz (23, [some (.ref 18), l1, l2, l3, some (.int x4), l5, l6, l7], [], σ) = if ((Int32.ofNat (hL σ)) - (10 : Int32)) < x4 then runF C d m_LL_lawz (2586, [some (.ref 18), l1, l2, l3, some (.int x4), l5, l6, l7], [], σ) else runF C d m_LL_lawz (33, [some (.ref 18), l1, l2, l3, some (.int x4), l5, l6, l7], [], σ) := by
  refine (r_iload 4 (show decode (zb m_LL_lawz) 23 = .ok (.iload 4, 2) from by decide +kernel) rfl).trans ?_
  refine (r_aloadn 0 (show decode (zb m_LL_lawz) 25 = .ok (.aload_n 0, 1) from by decide +kernel) rfl).trans ?_
  refine (r_alen18 (show decode (zb m_LL_lawz) 26 = .ok (.arraylength, 1) from by decide +kernel)).trans ?_
  refine (r_bipush (v := (10 : Int32)) (show decode (zb m_LL_lawz) 27 = .ok (.bipush (10), 2) from by decide +kernel) (by decide)).trans ?_
  refine (r_isub (show decode (zb m_LL_lawz) 29 = .ok (.isub, 1) from by decide +kernel)).trans ?_
  exact r_icmp_gt 2586 (show decode (zb m_LL_lawz) 30 = .ok (.if_icmp .gt (2556), 3) from by decide +kernel) rfl
theorem b_LL_lawz_33 {C : CF} {d : Nat} {σ : HP} {x4 : Int32} {l1 : Option Value} {l2 : Option Value} {l3 : Option Value} {l5 : Option Value} {l6 : Option Value} {l7 : Option Value} (h1 : inR x4 (hL σ) = true) : runF C d m_LL_lawz (33, [some (.ref 18), l1, l2, l3, some (.int x4), l5, l6, l7], [], σ) = if ((gI σ 18 (Int32.toNatClampNeg x4)) &&& (63 : Int32)) = 0 then runF C d m_LL_lawz (224, [some (.ref 18), l1, l2, l3, some (.int x4), l5, l6, l7], [], σ) else if ((gI σ 18 (Int32.toNatClampNeg x4)) &&& (63 : Int32)) = 1 then runF C d m_LL_lawz (297, [some (.ref 18), l1, l2, l3, some (.int x4), l5, l6, l7], [], σ) else if ((gI σ 18 (Int32.toNatClampNeg x4)) &&& (63 : Int32)) = 2 then runF C d m_LL_lawz (353, [some (.ref 18), l1, l2, l3, some (.int x4), l5, l6, l7], [], σ) else if ((gI σ 18 (Int32.toNatClampNeg x4)) &&& (63 : Int32)) = 3 then runF C d m_LL_lawz (409, [some (.ref 18), l1, l2, l3, some (.int x4), l5, l6, l7], [], σ) else if ((gI σ 18 (Int32.toNatClampNeg x4)) &&& (63 : Int32)) = 4 then runF C d m_LL_lawz (465, [some (.ref 18), l1, l2, l3, some (.int x4), l5, l6, l7], [], σ) else if ((gI σ 18 (Int32.toNatClampNeg x4)) &&& (63 : Int32)) = 5 then runF C d m_LL_lawz (521, [some (.ref 18), l1, l2, l3, some (.int x4), l5, l6, l7], [], σ) else if ((gI σ 18 (Int32.toNatClampNeg x4)) &&& (63 : Int32)) = 6 then runF C d m_LL_lawz (534, [some (.ref 18), l1, l2, l3, some (.int x4), l5, l6, l7], [], σ) else if ((gI σ 18 (Int32.toNatClampNeg x4)) &&& (63 : Int32)) = 7 then runF C d m_LL_lawz (547, [some (.ref 18), l1, l2, l3, some (.int x4), l5, l6, l7], [], σ) else if ((gI σ 18 (Int32.toNatClampNeg x4)) &&& (63 : Int32)) = 8 then runF C d m_LL_lawz (603, [some (.ref 18), l1, l2, l3, some (.int x4), l5, l6, l7], [], σ) else if ((gI σ 18 (Int32.toNatClampNeg x4)) &&& (63 : Int32)) = 9 then runF C d m_LL_lawz (671, [some (.ref 18), l1, l2, l3, some (.int x4), l5, l6, l7], [], σ) else if ((gI σ 18 (Int32.toNatClampNeg x4)) &&& (63 : Int32)) = 10 then runF C d m_LL_lawz (739, [some (.ref 18), l1, l2, l3, some (.int x4), l5, l6, l7], [], σ) else if ((gI σ 18 (Int32.toNatClampNeg x4)) &&& (63 : Int32)) = 11 then runF C d m_LL_lawz (807, [some (.ref 18), l1, l2, l3, some (.int x4), l5, l6, l7], [], σ) else if ((gI σ 18 (Int32.toNatClampNeg x4)) &&& (63 : Int32)) = 12 then runF C d m_LL_lawz (875, [some (.ref 18), l1, l2, l3, some (.int x4), l5, l6, l7], [], σ) else if ((gI σ 18 (Int32.toNatClampNeg x4)) &&& (63 : Int32)) = 13 then runF C d m_LL_lawz (1035, [some (.ref 18), l1, l2, l3, some (.int x4), l5, l6, l7], [], σ) else if ((gI σ 18 (Int32.toNatClampNeg x4)) &&& (63 : Int32)) = 14 then runF C d m_LL_lawz (1103, [some (.ref 18), l1, l2, l3, some (.int x4), l5, l6, l7], [], σ) else if ((gI σ 18 (Int32.toNatClampNeg x4)) &&& (63 : Int32)) = 15 then runF C d m_LL_lawz (1159, [some (.ref 18), l1, l2, l3, some (.int x4), l5, l6, l7], [], σ) else if ((gI σ 18 (Int32.toNatClampNeg x4)) &&& (63 : Int32)) = 16 then runF C d m_LL_lawz (1172, [some (.ref 18), l1, l2, l3, some (.int x4), l5, l6, l7], [], σ) else if ((gI σ 18 (Int32.toNatClampNeg x4)) &&& (63 : Int32)) = 17 then runF C d m_LL_lawz (1228, [some (.ref 18), l1, l2, l3, some (.int x4), l5, l6, l7], [], σ) else if ((gI σ 18 (Int32.toNatClampNeg x4)) &&& (63 : Int32)) = 18 then runF C d m_LL_lawz (1284, [some (.ref 18), l1, l2, l3, some (.int x4), l5, l6, l7], [], σ) else if ((gI σ 18 (Int32.toNatClampNeg x4)) &&& (63 : Int32)) = 19 then runF C d m_LL_lawz (1340, [some (.ref 18), l1, l2, l3, some (.int x4), l5, l6, l7], [], σ) else if ((gI σ 18 (Int32.toNatClampNeg x4)) &&& (63 : Int32)) = 20 then runF C d m_LL_lawz (1396, [some (.ref 18), l1, l2, l3, some (.int x4), l5, l6, l7], [], σ) else if ((gI σ 18 (Int32.toNatClampNeg x4)) &&& (63 : Int32)) = 21 then runF C d m_LL_lawz (1452, [some (.ref 18), l1, l2, l3, some (.int x4), l5, l6, l7], [], σ) else if ((gI σ 18 (Int32.toNatClampNeg x4)) &&& (63 : Int32)) = 22 then runF C d m_LL_lawz (1543, [some (.ref 18), l1, l2, l3, some (.int x4), l5, l6, l7], [], σ) else if ((gI σ 18 (Int32.toNatClampNeg x4)) &&& (63 : Int32)) = 23 then runF C d m_LL_lawz (1623, [some (.ref 18), l1, l2, l3, some (.int x4), l5, l6, l7], [], σ) else if ((gI σ 18 (Int32.toNatClampNeg x4)) &&& (63 : Int32)) = 24 then runF C d m_LL_lawz (1703, [some (.ref 18), l1, l2, l3, some (.int x4), l5, l6, l7], [], σ) else if ((gI σ 18 (Int32.toNatClampNeg x4)) &&& (63 : Int32)) = 25 then runF C d m_LL_lawz (1759, [some (.ref 18), l1, l2, l3, some (.int x4), l5, l6, l7], [], σ) else if ((gI σ 18 (Int32.toNatClampNeg x4)) &&& (63 : Int32)) = 26 then runF C d m_LL_lawz (1772, [some (.ref 18), l1, l2, l3, some (.int x4), l5, l6, l7], [], σ) else if ((gI σ 18 (Int32.toNatClampNeg x4)) &&& (63 : Int32)) = 27 then runF C d m_LL_lawz (1828, [some (.ref 18), l1, l2, l3, some (.int x4), l5, l6, l7], [], σ) else if ((gI σ 18 (Int32.toNatClampNeg x4)) &&& (63 : Int32)) = 28 then runF C d m_LL_lawz (1896, [some (.ref 18), l1, l2, l3, some (.int x4), l5, l6, l7], [], σ) else if ((gI σ 18 (Int32.toNatClampNeg x4)) &&& (63 : Int32)) = 29 then runF C d m_LL_lawz (1909, [some (.ref 18), l1, l2, l3, some (.int x4), l5, l6, l7], [], σ) else if ((gI σ 18 (Int32.toNatClampNeg x4)) &&& (63 : Int32)) = 30 then runF C d m_LL_lawz (1977, [some (.ref 18), l1, l2, l3, some (.int x4), l5, l6, l7], [], σ) else if ((gI σ 18 (Int32.toNatClampNeg x4)) &&& (63 : Int32)) = 31 then runF C d m_LL_lawz (2033, [some (.ref 18), l1, l2, l3, some (.int x4), l5, l6, l7], [], σ) else if ((gI σ 18 (Int32.toNatClampNeg x4)) &&& (63 : Int32)) = 32 then runF C d m_LL_lawz (2089, [some (.ref 18), l1, l2, l3, some (.int x4), l5, l6, l7], [], σ) else if ((gI σ 18 (Int32.toNatClampNeg x4)) &&& (63 : Int32)) = 33 then runF C d m_LL_lawz (2145, [some (.ref 18), l1, l2, l3, some (.int x4), l5, l6, l7], [], σ) else if ((gI σ 18 (Int32.toNatClampNeg x4)) &&& (63 : Int32)) = 34 then runF C d m_LL_lawz (2201, [some (.ref 18), l1, l2, l3, some (.int x4), l5, l6, l7], [], σ) else if ((gI σ 18 (Int32.toNatClampNeg x4)) &&& (63 : Int32)) = 35 then runF C d m_LL_lawz (2214, [some (.ref 18), l1, l2, l3, some (.int x4), l5, l6, l7], [], σ) else if ((gI σ 18 (Int32.toNatClampNeg x4)) &&& (63 : Int32)) = 36 then runF C d m_LL_lawz (2294, [some (.ref 18), l1, l2, l3, some (.int x4), l5, l6, l7], [], σ) else if ((gI σ 18 (Int32.toNatClampNeg x4)) &&& (63 : Int32)) = 37 then runF C d m_LL_lawz (2386, [some (.ref 18), l1, l2, l3, some (.int x4), l5, l6, l7], [], σ) else if ((gI σ 18 (Int32.toNatClampNeg x4)) &&& (63 : Int32)) = 38 then runF C d m_LL_lawz (2504, [some (.ref 18), l1, l2, l3, some (.int x4), l5, l6, l7], [], σ) else if ((gI σ 18 (Int32.toNatClampNeg x4)) &&& (63 : Int32)) = 39 then runF C d m_LL_lawz (2517, [some (.ref 18), l1, l2, l3, some (.int x4), l5, l6, l7], [], σ) else if ((gI σ 18 (Int32.toNatClampNeg x4)) &&& (63 : Int32)) = 40 then runF C d m_LL_lawz (2530, [some (.ref 18), l1, l2, l3, some (.int x4), l5, l6, l7], [], σ) else if ((gI σ 18 (Int32.toNatClampNeg x4)) &&& (63 : Int32)) = 41 then runF C d m_LL_lawz (2555, [some (.ref 18), l1, l2, l3, some (.int x4), l5, l6, l7], [], σ) else runF C d m_LL_lawz (2580, [some (.ref 18), l1, l2, l3, some (.int x4), l5, l6, l7], [], σ) := by
  refine (r_aloadn 0 (show decode (zb m_LL_lawz) 33 = .ok (.aload_n 0, 1) from by decide +kernel) rfl).trans ?_
  refine (r_iload 4 (show decode (zb m_LL_lawz) 34 = .ok (.iload 4, 2) from by decide +kernel) rfl).trans ?_
  refine (r_iald18 (show decode (zb m_LL_lawz) 36 = .ok (.iaload, 1) from by decide +kernel) h1).trans ?_
  refine (r_bipush (v := (63 : Int32)) (show decode (zb m_LL_lawz) 37 = .ok (.bipush (63), 2) from by decide +kernel) (by decide)).trans ?_
  refine (r_iand (show decode (zb m_LL_lawz) 39 = .ok (.iand, 1) from by decide +kernel)).trans ?_
  by_cases q0 : ((gI σ 18 (Int32.toNatClampNeg x4)) &&& (63 : Int32)) = 0
  · rw [if_pos q0]
    exact r_table 224 (show decode (zb m_LL_lawz) 40 = .ok (.tableswitch (2540) (0) (41) #[(184), (257), (313), (369), (425), (481), (494), (507), (563), (631), (699), (767), (835), (995), (1063), (1119), (1132), (1188), (1244), (1300), (1356), (1412), (1503), (1583), (1663), (1719), (1732), (1788), (1856), (1869), (1937), (1993), (2049), (2105), (2161), (2174), (2254), (2346), (2464), (2477), (2490), (2515)], 184) from by decide +kernel) (tb_in q0 rfl rfl rfl)
  rw [if_neg q0]
  by_cases q1 : ((gI σ 18 (Int32.toNatClampNeg x4)) &&& (63 : Int32)) = 1
  · rw [if_pos q1]
    exact r_table 297 (show decode (zb m_LL_lawz) 40 = .ok (.tableswitch (2540) (0) (41) #[(184), (257), (313), (369), (425), (481), (494), (507), (563), (631), (699), (767), (835), (995), (1063), (1119), (1132), (1188), (1244), (1300), (1356), (1412), (1503), (1583), (1663), (1719), (1732), (1788), (1856), (1869), (1937), (1993), (2049), (2105), (2161), (2174), (2254), (2346), (2464), (2477), (2490), (2515)], 184) from by decide +kernel) (tb_in q1 rfl rfl rfl)
  rw [if_neg q1]
  by_cases q2 : ((gI σ 18 (Int32.toNatClampNeg x4)) &&& (63 : Int32)) = 2
  · rw [if_pos q2]
    exact r_table 353 (show decode (zb m_LL_lawz) 40 = .ok (.tableswitch (2540) (0) (41) #[(184), (257), (313), (369), (425), (481), (494), (507), (563), (631), (699), (767), (835), (995), (1063), (1119), (1132), (1188), (1244), (1300), (1356), (1412), (1503), (1583), (1663), (1719), (1732), (1788), (1856), (1869), (1937), (1993), (2049), (2105), (2161), (2174), (2254), (2346), (2464), (2477), (2490), (2515)], 184) from by decide +kernel) (tb_in q2 rfl rfl rfl)
  rw [if_neg q2]
  by_cases q3 : ((gI σ 18 (Int32.toNatClampNeg x4)) &&& (63 : Int32)) = 3
  · rw [if_pos q3]
    exact r_table 409 (show decode (zb m_LL_lawz) 40 = .ok (.tableswitch (2540) (0) (41) #[(184), (257), (313), (369), (425), (481), (494), (507), (563), (631), (699), (767), (835), (995), (1063), (1119), (1132), (1188), (1244), (1300), (1356), (1412), (1503), (1583), (1663), (1719), (1732), (1788), (1856), (1869), (1937), (1993), (2049), (2105), (2161), (2174), (2254), (2346), (2464), (2477), (2490), (2515)], 184) from by decide +kernel) (tb_in q3 rfl rfl rfl)
  rw [if_neg q3]
  by_cases q4 : ((gI σ 18 (Int32.toNatClampNeg x4)) &&& (63 : Int32)) = 4
  · rw [if_pos q4]
    exact r_table 465 (show decode (zb m_LL_lawz) 40 = .ok (.tableswitch (2540) (0) (41) #[(184), (257), (313), (369), (425), (481), (494), (507), (563), (631), (699), (767), (835), (995), (1063), (1119), (1132), (1188), (1244), (1300), (1356), (1412), (1503), (1583), (1663), (1719), (1732), (1788), (1856), (1869), (1937), (1993), (2049), (2105), (2161), (2174), (2254), (2346), (2464), (2477), (2490), (2515)], 184) from by decide +kernel) (tb_in q4 rfl rfl rfl)
  rw [if_neg q4]
  by_cases q5 : ((gI σ 18 (Int32.toNatClampNeg x4)) &&& (63 : Int32)) = 5
  · rw [if_pos q5]
    exact r_table 521 (show decode (zb m_LL_lawz) 40 = .ok (.tableswitch (2540) (0) (41) #[(184), (257), (313), (369), (425), (481), (494), (507), (563), (631), (699), (767), (835), (995), (1063), (1119), (1132), (1188), (1244), (1300), (1356), (1412), (1503), (1583), (1663), (1719), (1732), (1788), (1856), (1869), (1937), (1993), (2049), (2105), (2161), (2174), (2254), (2346), (2464), (2477), (2490), (2515)], 184) from by decide +kernel) (tb_in q5 rfl rfl rfl)
  rw [if_neg q5]
  by_cases q6 : ((gI σ 18 (Int32.toNatClampNeg x4)) &&& (63 : Int32)) = 6
  · rw [if_pos q6]
    exact r_table 534 (show decode (zb m_LL_lawz) 40 = .ok (.tableswitch (2540) (0) (41) #[(184), (257), (313), (369), (425), (481), (494), (507), (563), (631), (699), (767), (835), (995), (1063), (1119), (1132), (1188), (1244), (1300), (1356), (1412), (1503), (1583), (1663), (1719), (1732), (1788), (1856), (1869), (1937), (1993), (2049), (2105), (2161), (2174), (2254), (2346), (2464), (2477), (2490), (2515)], 184) from by decide +kernel) (tb_in q6 rfl rfl rfl)
  rw [if_neg q6]
  by_cases q7 : ((gI σ 18 (Int32.toNatClampNeg x4)) &&& (63 : Int32)) = 7
  · rw [if_pos q7]
    exact r_table 547 (show decode (zb m_LL_lawz) 40 = .ok (.tableswitch (2540) (0) (41) #[(184), (257), (313), (369), (425), (481), (494), (507), (563), (631), (699), (767), (835), (995), (1063), (1119), (1132), (1188), (1244), (1300), (1356), (1412), (1503), (1583), (1663), (1719), (1732), (1788), (1856), (1869), (1937), (1993), (2049), (2105), (2161), (2174), (2254), (2346), (2464), (2477), (2490), (2515)], 184) from by decide +kernel) (tb_in q7 rfl rfl rfl)
  rw [if_neg q7]
  by_cases q8 : ((gI σ 18 (Int32.toNatClampNeg x4)) &&& (63 : Int32)) = 8
  · rw [if_pos q8]
    exact r_table 603 (show decode (zb m_LL_lawz) 40 = .ok (.tableswitch (2540) (0) (41) #[(184), (257), (313), (369), (425), (481), (494), (507), (563), (631), (699), (767), (835), (995), (1063), (1119), (1132), (1188), (1244), (1300), (1356), (1412), (1503), (1583), (1663), (1719), (1732), (1788), (1856), (1869), (1937), (1993), (2049), (2105), (2161), (2174), (2254), (2346), (2464), (2477), (2490), (2515)], 184) from by decide +kernel) (tb_in q8 rfl rfl rfl)
  rw [if_neg q8]
  by_cases q9 : ((gI σ 18 (Int32.toNatClampNeg x4)) &&& (63 : Int32)) = 9
  · rw [if_pos q9]
    exact r_table 671 (show decode (zb m_LL_lawz) 40 = .ok (.tableswitch (2540) (0) (41) #[(184), (257), (313), (369), (425), (481), (494), (507), (563), (631), (699), (767), (835), (995), (1063), (1119), (1132), (1188), (1244), (1300), (1356), (1412), (1503), (1583), (1663), (1719), (1732), (1788), (1856), (1869), (1937), (1993), (2049), (2105), (2161), (2174), (2254), (2346), (2464), (2477), (2490), (2515)], 184) from by decide +kernel) (tb_in q9 rfl rfl rfl)
  rw [if_neg q9]
  by_cases q10 : ((gI σ 18 (Int32.toNatClampNeg x4)) &&& (63 : Int32)) = 10
  · rw [if_pos q10]
    exact r_table 739 (show decode (zb m_LL_lawz) 40 = .ok (.tableswitch (2540) (0) (41) #[(184), (257), (313), (369), (425), (481), (494), (507), (563), (631), (699), (767), (835), (995), (1063), (1119), (1132), (1188), (1244), (1300), (1356), (1412), (1503), (1583), (1663), (1719), (1732), (1788), (1856), (1869), (1937), (1993), (2049), (2105), (2161), (2174), (2254), (2346), (2464), (2477), (2490), (2515)], 184) from by decide +kernel) (tb_in q10 rfl rfl rfl)
  rw [if_neg q10]
  by_cases q11 : ((gI σ 18 (Int32.toNatClampNeg x4)) &&& (63 : Int32)) = 11
  · rw [if_pos q11]
    exact r_table 807 (show decode (zb m_LL_lawz) 40 = .ok (.tableswitch (2540) (0) (41) #[(184), (257), (313), (369), (425), (481), (494), (507), (563), (631), (699), (767), (835), (995), (1063), (1119), (1132), (1188), (1244), (1300), (1356), (1412), (1503), (1583), (1663), (1719), (1732), (1788), (1856), (1869), (1937), (1993), (2049), (2105), (2161), (2174), (2254), (2346), (2464), (2477), (2490), (2515)], 184) from by decide +kernel) (tb_in q11 rfl rfl rfl)
  rw [if_neg q11]
  by_cases q12 : ((gI σ 18 (Int32.toNatClampNeg x4)) &&& (63 : Int32)) = 12
  · rw [if_pos q12]
    exact r_table 875 (show decode (zb m_LL_lawz) 40 = .ok (.tableswitch (2540) (0) (41) #[(184), (257), (313), (369), (425), (481), (494), (507), (563), (631), (699), (767), (835), (995), (1063), (1119), (1132), (1188), (1244), (1300), (1356), (1412), (1503), (1583), (1663), (1719), (1732), (1788), (1856), (1869), (1937), (1993), (2049), (2105), (2161), (2174), (2254), (2346), (2464), (2477), (2490), (2515)], 184) from by decide +kernel) (tb_in q12 rfl rfl rfl)
  rw [if_neg q12]
  by_cases q13 : ((gI σ 18 (Int32.toNatClampNeg x4)) &&& (63 : Int32)) = 13
  · rw [if_pos q13]
    exact r_table 1035 (show decode (zb m_LL_lawz) 40 = .ok (.tableswitch (2540) (0) (41) #[(184), (257), (313), (369), (425), (481), (494), (507), (563), (631), (699), (767), (835), (995), (1063), (1119), (1132), (1188), (1244), (1300), (1356), (1412), (1503), (1583), (1663), (1719), (1732), (1788), (1856), (1869), (1937), (1993), (2049), (2105), (2161), (2174), (2254), (2346), (2464), (2477), (2490), (2515)], 184) from by decide +kernel) (tb_in q13 rfl rfl rfl)
  rw [if_neg q13]
  by_cases q14 : ((gI σ 18 (Int32.toNatClampNeg x4)) &&& (63 : Int32)) = 14
  · rw [if_pos q14]
    exact r_table 1103 (show decode (zb m_LL_lawz) 40 = .ok (.tableswitch (2540) (0) (41) #[(184), (257), (313), (369), (425), (481), (494), (507), (563), (631), (699), (767), (835), (995), (1063), (1119), (1132), (1188), (1244), (1300), (1356), (1412), (1503), (1583), (1663), (1719), (1732), (1788), (1856), (1869), (1937), (1993), (2049), (2105), (2161), (2174), (2254), (2346), (2464), (2477), (2490), (2515)], 184) from by decide +kernel) (tb_in q14 rfl rfl rfl)
  rw [if_neg q14]
  by_cases q15 : ((gI σ 18 (Int32.toNatClampNeg x4)) &&& (63 : Int32)) = 15
  · rw [if_pos q15]
    exact r_table 1159 (show decode (zb m_LL_lawz) 40 = .ok (.tableswitch (2540) (0) (41) #[(184), (257), (313), (369), (425), (481), (494), (507), (563), (631), (699), (767), (835), (995), (1063), (1119), (1132), (1188), (1244), (1300), (1356), (1412), (1503), (1583), (1663), (1719), (1732), (1788), (1856), (1869), (1937), (1993), (2049), (2105), (2161), (2174), (2254), (2346), (2464), (2477), (2490), (2515)], 184) from by decide +kernel) (tb_in q15 rfl rfl rfl)
  rw [if_neg q15]
  by_cases q16 : ((gI σ 18 (Int32.toNatClampNeg x4)) &&& (63 : Int32)) = 16
  · rw [if_pos q16]
    exact r_table 1172 (show decode (zb m_LL_lawz) 40 = .ok (.tableswitch (2540) (0) (41) #[(184), (257), (313), (369), (425), (481), (494), (507), (563), (631), (699), (767), (835), (995), (1063), (1119), (1132), (1188), (1244), (1300), (1356), (1412), (1503), (1583), (1663), (1719), (1732), (1788), (1856), (1869), (1937), (1993), (2049), (2105), (2161), (2174), (2254), (2346), (2464), (2477), (2490), (2515)], 184) from by decide +kernel) (tb_in q16 rfl rfl rfl)
  rw [if_neg q16]
  by_cases q17 : ((gI σ 18 (Int32.toNatClampNeg x4)) &&& (63 : Int32)) = 17
  · rw [if_pos q17]
    exact r_table 1228 (show decode (zb m_LL_lawz) 40 = .ok (.tableswitch (2540) (0) (41) #[(184), (257), (313), (369), (425), (481), (494), (507), (563), (631), (699), (767), (835), (995), (1063), (1119), (1132), (1188), (1244), (1300), (1356), (1412), (1503), (1583), (1663), (1719), (1732), (1788), (1856), (1869), (1937), (1993), (2049), (2105), (2161), (2174), (2254), (2346), (2464), (2477), (2490), (2515)], 184) from by decide +kernel) (tb_in q17 rfl rfl rfl)
  rw [if_neg q17]
  by_cases q18 : ((gI σ 18 (Int32.toNatClampNeg x4)) &&& (63 : Int32)) = 18
  · rw [if_pos q18]
    exact r_table 1284 (show decode (zb m_LL_lawz) 40 = .ok (.tableswitch (2540) (0) (41) #[(184), (257), (313), (369), (425), (481), (494), (507), (563), (631), (699), (767), (835), (995), (1063), (1119), (1132), (1188), (1244), (1300), (1356), (1412), (1503), (1583), (1663), (1719), (1732), (1788), (1856), (1869), (1937), (1993), (2049), (2105), (2161), (2174), (2254), (2346), (2464), (2477), (2490), (2515)], 184) from by decide +kernel) (tb_in q18 rfl rfl rfl)
  rw [if_neg q18]
  by_cases q19 : ((gI σ 18 (Int32.toNatClampNeg x4)) &&& (63 : Int32)) = 19
  · rw [if_pos q19]
    exact r_table 1340 (show decode (zb m_LL_lawz) 40 = .ok (.tableswitch (2540) (0) (41) #[(184), (257), (313), (369), (425), (481), (494), (507), (563), (631), (699), (767), (835), (995), (1063), (1119), (1132), (1188), (1244), (1300), (1356), (1412), (1503), (1583), (1663), (1719), (1732), (1788), (1856), (1869), (1937), (1993), (2049), (2105), (2161), (2174), (2254), (2346), (2464), (2477), (2490), (2515)], 184) from by decide +kernel) (tb_in q19 rfl rfl rfl)
  rw [if_neg q19]
  by_cases q20 : ((gI σ 18 (Int32.toNatClampNeg x4)) &&& (63 : Int32)) = 20
  · rw [if_pos q20]
    exact r_table 1396 (show decode (zb m_LL_lawz) 40 = .ok (.tableswitch (2540) (0) (41) #[(184), (257), (313), (369), (425), (481), (494), (507), (563), (631), (699), (767), (835), (995), (1063), (1119), (1132), (1188), (1244), (1300), (1356), (1412), (1503), (1583), (1663), (1719), (1732), (1788), (1856), (1869), (1937), (1993), (2049), (2105), (2161), (2174), (2254), (2346), (2464), (2477), (2490), (2515)], 184) from by decide +kernel) (tb_in q20 rfl rfl rfl)
  rw [if_neg q20]
  by_cases q21 : ((gI σ 18 (Int32.toNatClampNeg x4)) &&& (63 : Int32)) = 21
  · rw [if_pos q21]
    exact r_table 1452 (show decode (zb m_LL_lawz) 40 = .ok (.tableswitch (2540) (0) (41) #[(184), (257), (313), (369), (425), (481), (494), (507), (563), (631), (699), (767), (835), (995), (1063), (1119), (1132), (1188), (1244), (1300), (1356), (1412), (1503), (1583), (1663), (1719), (1732), (1788), (1856), (1869), (1937), (1993), (2049), (2105), (2161), (2174), (2254), (2346), (2464), (2477), (2490), (2515)], 184) from by decide +kernel) (tb_in q21 rfl rfl rfl)
  rw [if_neg q21]
  by_cases q22 : ((gI σ 18 (Int32.toNatClampNeg x4)) &&& (63 : Int32)) = 22
  · rw [if_pos q22]
    exact r_table 1543 (show decode (zb m_LL_lawz) 40 = .ok (.tableswitch (2540) (0) (41) #[(184), (257), (313), (369), (425), (481), (494), (507), (563), (631), (699), (767), (835), (995), (1063), (1119), (1132), (1188), (1244), (1300), (1356), (1412), (1503), (1583), (1663), (1719), (1732), (1788), (1856), (1869), (1937), (1993), (2049), (2105), (2161), (2174), (2254), (2346), (2464), (2477), (2490), (2515)], 184) from by decide +kernel) (tb_in q22 rfl rfl rfl)
  rw [if_neg q22]
  by_cases q23 : ((gI σ 18 (Int32.toNatClampNeg x4)) &&& (63 : Int32)) = 23
  · rw [if_pos q23]
    exact r_table 1623 (show decode (zb m_LL_lawz) 40 = .ok (.tableswitch (2540) (0) (41) #[(184), (257), (313), (369), (425), (481), (494), (507), (563), (631), (699), (767), (835), (995), (1063), (1119), (1132), (1188), (1244), (1300), (1356), (1412), (1503), (1583), (1663), (1719), (1732), (1788), (1856), (1869), (1937), (1993), (2049), (2105), (2161), (2174), (2254), (2346), (2464), (2477), (2490), (2515)], 184) from by decide +kernel) (tb_in q23 rfl rfl rfl)
  rw [if_neg q23]
  by_cases q24 : ((gI σ 18 (Int32.toNatClampNeg x4)) &&& (63 : Int32)) = 24
  · rw [if_pos q24]
    exact r_table 1703 (show decode (zb m_LL_lawz) 40 = .ok (.tableswitch (2540) (0) (41) #[(184), (257), (313), (369), (425), (481), (494), (507), (563), (631), (699), (767), (835), (995), (1063), (1119), (1132), (1188), (1244), (1300), (1356), (1412), (1503), (1583), (1663), (1719), (1732), (1788), (1856), (1869), (1937), (1993), (2049), (2105), (2161), (2174), (2254), (2346), (2464), (2477), (2490), (2515)], 184) from by decide +kernel) (tb_in q24 rfl rfl rfl)
  rw [if_neg q24]
  by_cases q25 : ((gI σ 18 (Int32.toNatClampNeg x4)) &&& (63 : Int32)) = 25
  · rw [if_pos q25]
    exact r_table 1759 (show decode (zb m_LL_lawz) 40 = .ok (.tableswitch (2540) (0) (41) #[(184), (257), (313), (369), (425), (481), (494), (507), (563), (631), (699), (767), (835), (995), (1063), (1119), (1132), (1188), (1244), (1300), (1356), (1412), (1503), (1583), (1663), (1719), (1732), (1788), (1856), (1869), (1937), (1993), (2049), (2105), (2161), (2174), (2254), (2346), (2464), (2477), (2490), (2515)], 184) from by decide +kernel) (tb_in q25 rfl rfl rfl)
  rw [if_neg q25]
  by_cases q26 : ((gI σ 18 (Int32.toNatClampNeg x4)) &&& (63 : Int32)) = 26
  · rw [if_pos q26]
    exact r_table 1772 (show decode (zb m_LL_lawz) 40 = .ok (.tableswitch (2540) (0) (41) #[(184), (257), (313), (369), (425), (481), (494), (507), (563), (631), (699), (767), (835), (995), (1063), (1119), (1132), (1188), (1244), (1300), (1356), (1412), (1503), (1583), (1663), (1719), (1732), (1788), (1856), (1869), (1937), (1993), (2049), (2105), (2161), (2174), (2254), (2346), (2464), (2477), (2490), (2515)], 184) from by decide +kernel) (tb_in q26 rfl rfl rfl)
  rw [if_neg q26]
  by_cases q27 : ((gI σ 18 (Int32.toNatClampNeg x4)) &&& (63 : Int32)) = 27
  · rw [if_pos q27]
    exact r_table 1828 (show decode (zb m_LL_lawz) 40 = .ok (.tableswitch (2540) (0) (41) #[(184), (257), (313), (369), (425), (481), (494), (507), (563), (631), (699), (767), (835), (995), (1063), (1119), (1132), (1188), (1244), (1300), (1356), (1412), (1503), (1583), (1663), (1719), (1732), (1788), (1856), (1869), (1937), (1993), (2049), (2105), (2161), (2174), (2254), (2346), (2464), (2477), (2490), (2515)], 184) from by decide +kernel) (tb_in q27 rfl rfl rfl)
  rw [if_neg q27]
  by_cases q28 : ((gI σ 18 (Int32.toNatClampNeg x4)) &&& (63 : Int32)) = 28
  · rw [if_pos q28]
    exact r_table 1896 (show decode (zb m_LL_lawz) 40 = .ok (.tableswitch (2540) (0) (41) #[(184), (257), (313), (369), (425), (481), (494), (507), (563), (631), (699), (767), (835), (995), (1063), (1119), (1132), (1188), (1244), (1300), (1356), (1412), (1503), (1583), (1663), (1719), (1732), (1788), (1856), (1869), (1937), (1993), (2049), (2105), (2161), (2174), (2254), (2346), (2464), (2477), (2490), (2515)], 184) from by decide +kernel) (tb_in q28 rfl rfl rfl)
  rw [if_neg q28]
  by_cases q29 : ((gI σ 18 (Int32.toNatClampNeg x4)) &&& (63 : Int32)) = 29
  · rw [if_pos q29]
    exact r_table 1909 (show decode (zb m_LL_lawz) 40 = .ok (.tableswitch (2540) (0) (41) #[(184), (257), (313), (369), (425), (481), (494), (507), (563), (631), (699), (767), (835), (995), (1063), (1119), (1132), (1188), (1244), (1300), (1356), (1412), (1503), (1583), (1663), (1719), (1732), (1788), (1856), (1869), (1937), (1993), (2049), (2105), (2161), (2174), (2254), (2346), (2464), (2477), (2490), (2515)], 184) from by decide +kernel) (tb_in q29 rfl rfl rfl)
  rw [if_neg q29]
  by_cases q30 : ((gI σ 18 (Int32.toNatClampNeg x4)) &&& (63 : Int32)) = 30
  · rw [if_pos q30]
    exact r_table 1977 (show decode (zb m_LL_lawz) 40 = .ok (.tableswitch (2540) (0) (41) #[(184), (257), (313), (369), (425), (481), (494), (507), (563), (631), (699), (767), (835), (995), (1063), (1119), (1132), (1188), (1244), (1300), (1356), (1412), (1503), (1583), (1663), (1719), (1732), (1788), (1856), (1869), (1937), (1993), (2049), (2105), (2161), (2174), (2254), (2346), (2464), (2477), (2490), (2515)], 184) from by decide +kernel) (tb_in q30 rfl rfl rfl)
  rw [if_neg q30]
  by_cases q31 : ((gI σ 18 (Int32.toNatClampNeg x4)) &&& (63 : Int32)) = 31
  · rw [if_pos q31]
    exact r_table 2033 (show decode (zb m_LL_lawz) 40 = .ok (.tableswitch (2540) (0) (41) #[(184), (257), (313), (369), (425), (481), (494), (507), (563), (631), (699), (767), (835), (995), (1063), (1119), (1132), (1188), (1244), (1300), (1356), (1412), (1503), (1583), (1663), (1719), (1732), (1788), (1856), (1869), (1937), (1993), (2049), (2105), (2161), (2174), (2254), (2346), (2464), (2477), (2490), (2515)], 184) from by decide +kernel) (tb_in q31 rfl rfl rfl)
  rw [if_neg q31]
  by_cases q32 : ((gI σ 18 (Int32.toNatClampNeg x4)) &&& (63 : Int32)) = 32
  · rw [if_pos q32]
    exact r_table 2089 (show decode (zb m_LL_lawz) 40 = .ok (.tableswitch (2540) (0) (41) #[(184), (257), (313), (369), (425), (481), (494), (507), (563), (631), (699), (767), (835), (995), (1063), (1119), (1132), (1188), (1244), (1300), (1356), (1412), (1503), (1583), (1663), (1719), (1732), (1788), (1856), (1869), (1937), (1993), (2049), (2105), (2161), (2174), (2254), (2346), (2464), (2477), (2490), (2515)], 184) from by decide +kernel) (tb_in q32 rfl rfl rfl)
  rw [if_neg q32]
  by_cases q33 : ((gI σ 18 (Int32.toNatClampNeg x4)) &&& (63 : Int32)) = 33
  · rw [if_pos q33]
    exact r_table 2145 (show decode (zb m_LL_lawz) 40 = .ok (.tableswitch (2540) (0) (41) #[(184), (257), (313), (369), (425), (481), (494), (507), (563), (631), (699), (767), (835), (995), (1063), (1119), (1132), (1188), (1244), (1300), (1356), (1412), (1503), (1583), (1663), (1719), (1732), (1788), (1856), (1869), (1937), (1993), (2049), (2105), (2161), (2174), (2254), (2346), (2464), (2477), (2490), (2515)], 184) from by decide +kernel) (tb_in q33 rfl rfl rfl)
  rw [if_neg q33]
  by_cases q34 : ((gI σ 18 (Int32.toNatClampNeg x4)) &&& (63 : Int32)) = 34
  · rw [if_pos q34]
    exact r_table 2201 (show decode (zb m_LL_lawz) 40 = .ok (.tableswitch (2540) (0) (41) #[(184), (257), (313), (369), (425), (481), (494), (507), (563), (631), (699), (767), (835), (995), (1063), (1119), (1132), (1188), (1244), (1300), (1356), (1412), (1503), (1583), (1663), (1719), (1732), (1788), (1856), (1869), (1937), (1993), (2049), (2105), (2161), (2174), (2254), (2346), (2464), (2477), (2490), (2515)], 184) from by decide +kernel) (tb_in q34 rfl rfl rfl)
  rw [if_neg q34]
  by_cases q35 : ((gI σ 18 (Int32.toNatClampNeg x4)) &&& (63 : Int32)) = 35
  · rw [if_pos q35]
    exact r_table 2214 (show decode (zb m_LL_lawz) 40 = .ok (.tableswitch (2540) (0) (41) #[(184), (257), (313), (369), (425), (481), (494), (507), (563), (631), (699), (767), (835), (995), (1063), (1119), (1132), (1188), (1244), (1300), (1356), (1412), (1503), (1583), (1663), (1719), (1732), (1788), (1856), (1869), (1937), (1993), (2049), (2105), (2161), (2174), (2254), (2346), (2464), (2477), (2490), (2515)], 184) from by decide +kernel) (tb_in q35 rfl rfl rfl)
  rw [if_neg q35]
  by_cases q36 : ((gI σ 18 (Int32.toNatClampNeg x4)) &&& (63 : Int32)) = 36
  · rw [if_pos q36]
    exact r_table 2294 (show decode (zb m_LL_lawz) 40 = .ok (.tableswitch (2540) (0) (41) #[(184), (257), (313), (369), (425), (481), (494), (507), (563), (631), (699), (767), (835), (995), (1063), (1119), (1132), (1188), (1244), (1300), (1356), (1412), (1503), (1583), (1663), (1719), (1732), (1788), (1856), (1869), (1937), (1993), (2049), (2105), (2161), (2174), (2254), (2346), (2464), (2477), (2490), (2515)], 184) from by decide +kernel) (tb_in q36 rfl rfl rfl)
  rw [if_neg q36]
  by_cases q37 : ((gI σ 18 (Int32.toNatClampNeg x4)) &&& (63 : Int32)) = 37
  · rw [if_pos q37]
    exact r_table 2386 (show decode (zb m_LL_lawz) 40 = .ok (.tableswitch (2540) (0) (41) #[(184), (257), (313), (369), (425), (481), (494), (507), (563), (631), (699), (767), (835), (995), (1063), (1119), (1132), (1188), (1244), (1300), (1356), (1412), (1503), (1583), (1663), (1719), (1732), (1788), (1856), (1869), (1937), (1993), (2049), (2105), (2161), (2174), (2254), (2346), (2464), (2477), (2490), (2515)], 184) from by decide +kernel) (tb_in q37 rfl rfl rfl)
  rw [if_neg q37]
  by_cases q38 : ((gI σ 18 (Int32.toNatClampNeg x4)) &&& (63 : Int32)) = 38
  · rw [if_pos q38]
    exact r_table 2504 (show decode (zb m_LL_lawz) 40 = .ok (.tableswitch (2540) (0) (41) #[(184), (257), (313), (369), (425), (481), (494), (507), (563), (631), (699), (767), (835), (995), (1063), (1119), (1132), (1188), (1244), (1300), (1356), (1412), (1503), (1583), (1663), (1719), (1732), (1788), (1856), (1869), (1937), (1993), (2049), (2105), (2161), (2174), (2254), (2346), (2464), (2477), (2490), (2515)], 184) from by decide +kernel) (tb_in q38 rfl rfl rfl)
  rw [if_neg q38]
  by_cases q39 : ((gI σ 18 (Int32.toNatClampNeg x4)) &&& (63 : Int32)) = 39
  · rw [if_pos q39]
    exact r_table 2517 (show decode (zb m_LL_lawz) 40 = .ok (.tableswitch (2540) (0) (41) #[(184), (257), (313), (369), (425), (481), (494), (507), (563), (631), (699), (767), (835), (995), (1063), (1119), (1132), (1188), (1244), (1300), (1356), (1412), (1503), (1583), (1663), (1719), (1732), (1788), (1856), (1869), (1937), (1993), (2049), (2105), (2161), (2174), (2254), (2346), (2464), (2477), (2490), (2515)], 184) from by decide +kernel) (tb_in q39 rfl rfl rfl)
  rw [if_neg q39]
  by_cases q40 : ((gI σ 18 (Int32.toNatClampNeg x4)) &&& (63 : Int32)) = 40
  · rw [if_pos q40]
    exact r_table 2530 (show decode (zb m_LL_lawz) 40 = .ok (.tableswitch (2540) (0) (41) #[(184), (257), (313), (369), (425), (481), (494), (507), (563), (631), (699), (767), (835), (995), (1063), (1119), (1132), (1188), (1244), (1300), (1356), (1412), (1503), (1583), (1663), (1719), (1732), (1788), (1856), (1869), (1937), (1993), (2049), (2105), (2161), (2174), (2254), (2346), (2464), (2477), (2490), (2515)], 184) from by decide +kernel) (tb_in q40 rfl rfl rfl)
  rw [if_neg q40]
  by_cases q41 : ((gI σ 18 (Int32.toNatClampNeg x4)) &&& (63 : Int32)) = 41
  · rw [if_pos q41]
    exact r_table 2555 (show decode (zb m_LL_lawz) 40 = .ok (.tableswitch (2540) (0) (41) #[(184), (257), (313), (369), (425), (481), (494), (507), (563), (631), (699), (767), (835), (995), (1063), (1119), (1132), (1188), (1244), (1300), (1356), (1412), (1503), (1583), (1663), (1719), (1732), (1788), (1856), (1869), (1937), (1993), (2049), (2105), (2161), (2174), (2254), (2346), (2464), (2477), (2490), (2515)], 184) from by decide +kernel) (tb_in q41 rfl rfl rfl)
  rw [if_neg q41]
  have e0 : (Int32.toInt ((gI σ 18 (Int32.toNatClampNeg x4)) &&& (63 : Int32))) ≠ 0 := ne_toInt q0
  have e1 : (Int32.toInt ((gI σ 18 (Int32.toNatClampNeg x4)) &&& (63 : Int32))) ≠ 1 := ne_toInt q1
  have e2 : (Int32.toInt ((gI σ 18 (Int32.toNatClampNeg x4)) &&& (63 : Int32))) ≠ 2 := ne_toInt q2
  have e3 : (Int32.toInt ((gI σ 18 (Int32.toNatClampNeg x4)) &&& (63 : Int32))) ≠ 3 := ne_toInt q3
  have e4 : (Int32.toInt ((gI σ 18 (Int32.toNatClampNeg x4)) &&& (63 : Int32))) ≠ 4 := ne_toInt q4
  have e5 : (Int32.toInt ((gI σ 18 (Int32.toNatClampNeg x4)) &&& (63 : Int32))) ≠ 5 := ne_toInt q5
  have e6 : (Int32.toInt ((gI σ 18 (Int32.toNatClampNeg x4)) &&& (63 : Int32))) ≠ 6 := ne_toInt q6
  have e7 : (Int32.toInt ((gI σ 18 (Int32.toNatClampNeg x4)) &&& (63 : Int32))) ≠ 7 := ne_toInt q7
  have e8 : (Int32.toInt ((gI σ 18 (Int32.toNatClampNeg x4)) &&& (63 : Int32))) ≠ 8 := ne_toInt q8
  have e9 : (Int32.toInt ((gI σ 18 (Int32.toNatClampNeg x4)) &&& (63 : Int32))) ≠ 9 := ne_toInt q9
  have e10 : (Int32.toInt ((gI σ 18 (Int32.toNatClampNeg x4)) &&& (63 : Int32))) ≠ 10 := ne_toInt q10
  have e11 : (Int32.toInt ((gI σ 18 (Int32.toNatClampNeg x4)) &&& (63 : Int32))) ≠ 11 := ne_toInt q11
  have e12 : (Int32.toInt ((gI σ 18 (Int32.toNatClampNeg x4)) &&& (63 : Int32))) ≠ 12 := ne_toInt q12
  have e13 : (Int32.toInt ((gI σ 18 (Int32.toNatClampNeg x4)) &&& (63 : Int32))) ≠ 13 := ne_toInt q13
  have e14 : (Int32.toInt ((gI σ 18 (Int32.toNatClampNeg x4)) &&& (63 : Int32))) ≠ 14 := ne_toInt q14
  have e15 : (Int32.toInt ((gI σ 18 (Int32.toNatClampNeg x4)) &&& (63 : Int32))) ≠ 15 := ne_toInt q15
  have e16 : (Int32.toInt ((gI σ 18 (Int32.toNatClampNeg x4)) &&& (63 : Int32))) ≠ 16 := ne_toInt q16
  have e17 : (Int32.toInt ((gI σ 18 (Int32.toNatClampNeg x4)) &&& (63 : Int32))) ≠ 17 := ne_toInt q17
  have e18 : (Int32.toInt ((gI σ 18 (Int32.toNatClampNeg x4)) &&& (63 : Int32))) ≠ 18 := ne_toInt q18
  have e19 : (Int32.toInt ((gI σ 18 (Int32.toNatClampNeg x4)) &&& (63 : Int32))) ≠ 19 := ne_toInt q19
  have e20 : (Int32.toInt ((gI σ 18 (Int32.toNatClampNeg x4)) &&& (63 : Int32))) ≠ 20 := ne_toInt q20
  have e21 : (Int32.toInt ((gI σ 18 (Int32.toNatClampNeg x4)) &&& (63 : Int32))) ≠ 21 := ne_toInt q21
  have e22 : (Int32.toInt ((gI σ 18 (Int32.toNatClampNeg x4)) &&& (63 : Int32))) ≠ 22 := ne_toInt q22
  have e23 : (Int32.toInt ((gI σ 18 (Int32.toNatClampNeg x4)) &&& (63 : Int32))) ≠ 23 := ne_toInt q23
  have e24 : (Int32.toInt ((gI σ 18 (Int32.toNatClampNeg x4)) &&& (63 : Int32))) ≠ 24 := ne_toInt q24
  have e25 : (Int32.toInt ((gI σ 18 (Int32.toNatClampNeg x4)) &&& (63 : Int32))) ≠ 25 := ne_toInt q25
  have e26 : (Int32.toInt ((gI σ 18 (Int32.toNatClampNeg x4)) &&& (63 : Int32))) ≠ 26 := ne_toInt q26
  have e27 : (Int32.toInt ((gI σ 18 (Int32.toNatClampNeg x4)) &&& (63 : Int32))) ≠ 27 := ne_toInt q27
  have e28 : (Int32.toInt ((gI σ 18 (Int32.toNatClampNeg x4)) &&& (63 : Int32))) ≠ 28 := ne_toInt q28
  have e29 : (Int32.toInt ((gI σ 18 (Int32.toNatClampNeg x4)) &&& (63 : Int32))) ≠ 29 := ne_toInt q29
  have e30 : (Int32.toInt ((gI σ 18 (Int32.toNatClampNeg x4)) &&& (63 : Int32))) ≠ 30 := ne_toInt q30
  have e31 : (Int32.toInt ((gI σ 18 (Int32.toNatClampNeg x4)) &&& (63 : Int32))) ≠ 31 := ne_toInt q31
  have e32 : (Int32.toInt ((gI σ 18 (Int32.toNatClampNeg x4)) &&& (63 : Int32))) ≠ 32 := ne_toInt q32
  have e33 : (Int32.toInt ((gI σ 18 (Int32.toNatClampNeg x4)) &&& (63 : Int32))) ≠ 33 := ne_toInt q33
  have e34 : (Int32.toInt ((gI σ 18 (Int32.toNatClampNeg x4)) &&& (63 : Int32))) ≠ 34 := ne_toInt q34
  have e35 : (Int32.toInt ((gI σ 18 (Int32.toNatClampNeg x4)) &&& (63 : Int32))) ≠ 35 := ne_toInt q35
  have e36 : (Int32.toInt ((gI σ 18 (Int32.toNatClampNeg x4)) &&& (63 : Int32))) ≠ 36 := ne_toInt q36
  have e37 : (Int32.toInt ((gI σ 18 (Int32.toNatClampNeg x4)) &&& (63 : Int32))) ≠ 37 := ne_toInt q37
  have e38 : (Int32.toInt ((gI σ 18 (Int32.toNatClampNeg x4)) &&& (63 : Int32))) ≠ 38 := ne_toInt q38
  have e39 : (Int32.toInt ((gI σ 18 (Int32.toNatClampNeg x4)) &&& (63 : Int32))) ≠ 39 := ne_toInt q39
  have e40 : (Int32.toInt ((gI σ 18 (Int32.toNatClampNeg x4)) &&& (63 : Int32))) ≠ 40 := ne_toInt q40
  have e41 : (Int32.toInt ((gI σ 18 (Int32.toNatClampNeg x4)) &&& (63 : Int32))) ≠ 41 := ne_toInt q41
  exact r_table 2580 (show decode (zb m_LL_lawz) 40 = .ok (.tableswitch (2540) (0) (41) #[(184), (257), (313), (369), (425), (481), (494), (507), (563), (631), (699), (767), (835), (995), (1063), (1119), (1132), (1188), (1244), (1300), (1356), (1412), (1503), (1583), (1663), (1719), (1732), (1788), (1856), (1869), (1937), (1993), (2049), (2105), (2161), (2174), (2254), (2346), (2464), (2477), (2490), (2515)], 184) from by decide +kernel) (tb_out (by omega) rfl)
theorem b_LL_lawz_224 {C : CF} {d : Nat} {σ : HP} {a1 : Nat} {x4 : Int32} {l2 : Option Value} {l3 : Option Value} {l5 : Option Value} {l6 : Option Value} {l7 : Option Value} (h1 : inR (x4 + (1 : Int32)) (hL σ) = true) (h2 : inR (x4 + (2 : Int32)) (hL σ) = true) (h3 : inR (x4 + (3 : Int32)) (hL σ) = true) (h4 : inR (x4 + (4 : Int32)) (hL σ) = true) (h5 : inR (x4 + (5 : Int32)) (hL σ) = true) (h6 : a1 % 64 = 11) : runF C d m_LL_lawz (224, [some (.ref 18), some (.ref a1), l2, l3, some (.int x4), l5, l6, l7], [], σ) = bk C d m_LL_lawz 255 [some (.ref 18), some (.ref a1), l2, l3, some (.int x4), l5, l6, l7] [] (C m_PL_feed [.ref a1, .int (gI σ 18 (Int32.toNatClampNeg (x4 + (1 : Int32)))), .int (gI σ 18 (Int32.toNatClampNeg (x4 + (2 : Int32)))), .int (gI σ 18 (Int32.toNatClampNeg (x4 + (3 : Int32)))), .int (gI σ 18 (Int32.toNatClampNeg (x4 + (4 : Int32)))), .int (gI σ 18 (Int32.toNatClampNeg (x4 + (5 : Int32))))] σ) := by
  refine (r_aloadn 1 (show decode (zb m_LL_lawz) 224 = .ok (.aload_n 1, 1) from by decide +kernel) rfl).trans ?_
  refine (r_aloadn 0 (show decode (zb m_LL_lawz) 225 = .ok (.aload_n 0, 1) from by decide +kernel) rfl).trans ?_
  refine (r_iload 4 (show decode (zb m_LL_lawz) 226 = .ok (.iload 4, 2) from by decide +kernel) rfl).trans ?_
  refine (r_iconst (v := (1 : Int32)) (show decode (zb m_LL_lawz) 228 = .ok (.iconst (1), 1) from by decide +kernel) (by decide)).trans ?_
  refine (r_iadd (show decode (zb m_LL_lawz) 229 = .ok (.iadd, 1) from by decide +kernel)).trans ?_
  refine (r_iald18 (show decode (zb m_LL_lawz) 230 = .ok (.iaload, 1) from by decide +kernel) h1).trans ?_
  refine (r_aloadn 0 (show decode (zb m_LL_lawz) 231 = .ok (.aload_n 0, 1) from by decide +kernel) rfl).trans ?_
  refine (r_iload 4 (show decode (zb m_LL_lawz) 232 = .ok (.iload 4, 2) from by decide +kernel) rfl).trans ?_
  refine (r_iconst (v := (2 : Int32)) (show decode (zb m_LL_lawz) 234 = .ok (.iconst (2), 1) from by decide +kernel) (by decide)).trans ?_
  refine (r_iadd (show decode (zb m_LL_lawz) 235 = .ok (.iadd, 1) from by decide +kernel)).trans ?_
  refine (r_iald18 (show decode (zb m_LL_lawz) 236 = .ok (.iaload, 1) from by decide +kernel) h2).trans ?_
  refine (r_aloadn 0 (show decode (zb m_LL_lawz) 237 = .ok (.aload_n 0, 1) from by decide +kernel) rfl).trans ?_
  refine (r_iload 4 (show decode (zb m_LL_lawz) 238 = .ok (.iload 4, 2) from by decide +kernel) rfl).trans ?_
  refine (r_iconst (v := (3 : Int32)) (show decode (zb m_LL_lawz) 240 = .ok (.iconst (3), 1) from by decide +kernel) (by decide)).trans ?_
  refine (r_iadd (show decode (zb m_LL_lawz) 241 = .ok (.iadd, 1) from by decide +kernel)).trans ?_
  refine (r_iald18 (show decode (zb m_LL_lawz) 242 = .ok (.iaload, 1) from by decide +kernel) h3).trans ?_
  refine (r_aloadn 0 (show decode (zb m_LL_lawz) 243 = .ok (.aload_n 0, 1) from by decide +kernel) rfl).trans ?_
  refine (r_iload 4 (show decode (zb m_LL_lawz) 244 = .ok (.iload 4, 2) from by decide +kernel) rfl).trans ?_
  refine (r_iconst (v := (4 : Int32)) (show decode (zb m_LL_lawz) 246 = .ok (.iconst (4), 1) from by decide +kernel) (by decide)).trans ?_
  refine (r_iadd (show decode (zb m_LL_lawz) 247 = .ok (.iadd, 1) from by decide +kernel)).trans ?_
  refine (r_iald18 (show decode (zb m_LL_lawz) 248 = .ok (.iaload, 1) from by decide +kernel) h4).trans ?_
  refine (r_aloadn 0 (show decode (zb m_LL_lawz) 249 = .ok (.aload_n 0, 1) from by decide +kernel) rfl).trans ?_
  refine (r_iload 4 (show decode (zb m_LL_lawz) 250 = .ok (.iload 4, 2) from by decide +kernel) rfl).trans ?_
  refine (r_iconst (v := (5 : Int32)) (show decode (zb m_LL_lawz) 252 = .ok (.iconst (5), 1) from by decide +kernel) (by decide)).trans ?_
  refine (r_iadd (show decode (zb m_LL_lawz) 253 = .ok (.iadd, 1) from by decide +kernel)).trans ?_
  refine (r_iald18 (show decode (zb m_LL_lawz) 254 = .ok (.iaload, 1) from by decide +kernel) h5).trans ?_
  exact r_virt (args := [.int (gI σ 18 (Int32.toNatClampNeg (x4 + (1 : Int32)))), .int (gI σ 18 (Int32.toNatClampNeg (x4 + (2 : Int32)))), .int (gI σ 18 (Int32.toNatClampNeg (x4 + (3 : Int32)))), .int (gI σ 18 (Int32.toNatClampNeg (x4 + (4 : Int32)))), .int (gI σ 18 (Int32.toNatClampNeg (x4 + (5 : Int32))))]) (rest := []) (show decode (zb m_LL_lawz) 255 = .ok (.invokevirtual 117, 3) from by decide +kernel) rfl rfl rfl h6
theorem b_LL_lawz_258 {C : CF} {d : Nat} {σ : HP} {s0 : Int32} {a2 : Nat} {x4 : Int32} {l1 : Option Value} {l3 : Option Value} {l5 : Option Value} {l6 : Option Value} {l7 : Option Value} (h1 : inR (x4 + (1 : Int32)) (hL σ) = true) (h2 : inR (x4 + (2 : Int32)) (hL σ) = true) (h3 : inR (x4 + (3 : Int32)) (hL σ) = true) (h4 : inR (x4 + (4 : Int32)) (hL σ) = true) (h5 : inR (x4 + (5 : Int32)) (hL σ) = true) (h6 : a2 % 64 = 12) : runF C d m_LL_lawz (258, [some (.ref 18), l1, some (.ref a2), l3, some (.int x4), l5, l6, l7], [.int s0], σ) = bk C d m_LL_lawz 289 [some (.ref 18), l1, some (.ref a2), l3, some (.int x4), l5, l6, l7] [.int s0] (C m_Mo_feed [.ref a2, .int (gI σ 18 (Int32.toNatClampNeg (x4 + (1 : Int32)))), .int (gI σ 18 (Int32.toNatClampNeg (x4 + (2 : Int32)))), .int (gI σ 18 (Int32.toNatClampNeg (x4 + (3 : Int32)))), .int (gI σ 18 (Int32.toNatClampNeg (x4 + (4 : Int32)))), .int (gI σ 18 (Int32.toNatClampNeg (x4 + (5 : Int32))))] σ) := by
  refine (r_aloadn 2 (show decode (zb m_LL_lawz) 258 = .ok (.aload_n 2, 1) from by decide +kernel) rfl).trans ?_
  refine (r_aloadn 0 (show decode (zb m_LL_lawz) 259 = .ok (.aload_n 0, 1) from by decide +kernel) rfl).trans ?_
  refine (r_iload 4 (show decode (zb m_LL_lawz) 260 = .ok (.iload 4, 2) from by decide +kernel) rfl).trans ?_
  refine (r_iconst (v := (1 : Int32)) (show decode (zb m_LL_lawz) 262 = .ok (.iconst (1), 1) from by decide +kernel) (by decide)).trans ?_
  refine (r_iadd (show decode (zb m_LL_lawz) 263 = .ok (.iadd, 1) from by decide +kernel)).trans ?_
  refine (r_iald18 (show decode (zb m_LL_lawz) 264 = .ok (.iaload, 1) from by decide +kernel) h1).trans ?_
  refine (r_aloadn 0 (show decode (zb m_LL_lawz) 265 = .ok (.aload_n 0, 1) from by decide +kernel) rfl).trans ?_
  refine (r_iload 4 (show decode (zb m_LL_lawz) 266 = .ok (.iload 4, 2) from by decide +kernel) rfl).trans ?_
  refine (r_iconst (v := (2 : Int32)) (show decode (zb m_LL_lawz) 268 = .ok (.iconst (2), 1) from by decide +kernel) (by decide)).trans ?_
  refine (r_iadd (show decode (zb m_LL_lawz) 269 = .ok (.iadd, 1) from by decide +kernel)).trans ?_
  refine (r_iald18 (show decode (zb m_LL_lawz) 270 = .ok (.iaload, 1) from by decide +kernel) h2).trans ?_
  refine (r_aloadn 0 (show decode (zb m_LL_lawz) 271 = .ok (.aload_n 0, 1) from by decide +kernel) rfl).trans ?_
  refine (r_iload 4 (show decode (zb m_LL_lawz) 272 = .ok (.iload 4, 2) from by decide +kernel) rfl).trans ?_
  refine (r_iconst (v := (3 : Int32)) (show decode (zb m_LL_lawz) 274 = .ok (.iconst (3), 1) from by decide +kernel) (by decide)).trans ?_
  refine (r_iadd (show decode (zb m_LL_lawz) 275 = .ok (.iadd, 1) from by decide +kernel)).trans ?_
  refine (r_iald18 (show decode (zb m_LL_lawz) 276 = .ok (.iaload, 1) from by decide +kernel) h3).trans ?_
  refine (r_aloadn 0 (show decode (zb m_LL_lawz) 277 = .ok (.aload_n 0, 1) from by decide +kernel) rfl).trans ?_
  refine (r_iload 4 (show decode (zb m_LL_lawz) 278 = .ok (.iload 4, 2) from by decide +kernel) rfl).trans ?_
  refine (r_iconst (v := (4 : Int32)) (show decode (zb m_LL_lawz) 280 = .ok (.iconst (4), 1) from by decide +kernel) (by decide)).trans ?_
  refine (r_iadd (show decode (zb m_LL_lawz) 281 = .ok (.iadd, 1) from by decide +kernel)).trans ?_
  refine (r_iald18 (show decode (zb m_LL_lawz) 282 = .ok (.iaload, 1) from by decide +kernel) h4).trans ?_
  refine (r_aloadn 0 (show decode (zb m_LL_lawz) 283 = .ok (.aload_n 0, 1) from by decide +kernel) rfl).trans ?_
  refine (r_iload 4 (show decode (zb m_LL_lawz) 284 = .ok (.iload 4, 2) from by decide +kernel) rfl).trans ?_
  refine (r_iconst (v := (5 : Int32)) (show decode (zb m_LL_lawz) 286 = .ok (.iconst (5), 1) from by decide +kernel) (by decide)).trans ?_
  refine (r_iadd (show decode (zb m_LL_lawz) 287 = .ok (.iadd, 1) from by decide +kernel)).trans ?_
  refine (r_iald18 (show decode (zb m_LL_lawz) 288 = .ok (.iaload, 1) from by decide +kernel) h5).trans ?_
  exact r_virt (args := [.int (gI σ 18 (Int32.toNatClampNeg (x4 + (1 : Int32)))), .int (gI σ 18 (Int32.toNatClampNeg (x4 + (2 : Int32)))), .int (gI σ 18 (Int32.toNatClampNeg (x4 + (3 : Int32)))), .int (gI σ 18 (Int32.toNatClampNeg (x4 + (4 : Int32)))), .int (gI σ 18 (Int32.toNatClampNeg (x4 + (5 : Int32))))]) (rest := [.int s0]) (show decode (zb m_LL_lawz) 289 = .ok (.invokevirtual 121, 3) from by decide +kernel) rfl rfl rfl h6
theorem b_LL_lawz_292 {C : CF} {d : Nat} {σ : HP} {s0 : Int32} {s1 : Int32} {l0 : Option Value} {l1 : Option Value} {l2 : Option Value} {l3 : Option Value} {l4 : Option Value} {l5 : Option Value} {l6 : Option Value} {l7 : Option Value}  : runF C d m_LL_lawz (292, [l0, l1, l2, l3, l4, l5, l6, l7], [.int s0, .int s1], σ) = if s1 = s0 then runF C d m_LL_lawz (2580, [l0, l1, l2, l3, l4, l5, l6, l7], [], σ) else runF C d m_LL_lawz (295, [l0, l1, l2, l3, l4, l5, l6, l7], [], σ) := by
  exact r_icmp_eq 2580 (show decode (zb m_LL_lawz) 292 = .ok (.if_icmp .eq (2288), 3) from by decide +kernel) rfl
theorem b_LL_lawz_295 {C : CF} {d : Nat} {σ : HP} {l0 : Option Value} {l1 : Option Value} {l2 : Option Value} {l3 : Option Value} {l4 : Option Value} {l5 : Option Value} {l6 : Option Value} {l7 : Option Value}  : runF C d m_LL_lawz (295, [l0, l1, l2, l3, l4, l5, l6, l7], [], σ) = some (.inl (some (.int (0 : Int32))), σ) := by
  refine (r_iconst (v := (0 : Int32)) (show decode (zb m_LL_lawz) 295 = .ok (.iconst (0), 1) from by decide +kernel) (by decide)).trans ?_
  exact r_bret (show decode (zb m_LL_lawz) 296 = .ok (.ireturn, 1) from by decide +kernel) rfl (by decide)
theorem b_LL_lawz_297 {C : CF} {d : Nat} {σ : HP} {a1 : Nat} {x4 : Int32} {a3 : Nat} {l2 : Option Value} {l5 : Option Value} {l6 : Option Value} {l7 : Option Value} (h1 : inR (x4 + (1 : Int32)) (hL σ) = true) : runF C d m_LL_lawz (297, [some (.ref 18), some (.ref a1), l2, some (.ref a3), some (.int x4), l5, l6, l7], [], σ) = bkN C d m_LL_lawz 305 [some (.ref 18), some (.ref a1), l2, some (.ref a3), some (.int x4), l5, l6, l7] [] (C m_LL_house [.ref a1, .int (gI σ 18 (Int32.toNatClampNeg (x4 + (1 : Int32)))), .ref a3] σ) := by
  refine (r_aloadn 1 (show decode (zb m_LL_lawz) 297 = .ok (.aload_n 1, 1) from by decide +kernel) rfl).trans ?_
  refine (r_aloadn 0 (show decode (zb m_LL_lawz) 298 = .ok (.aload_n 0, 1) from by decide +kernel) rfl).trans ?_
  refine (r_iload 4 (show decode (zb m_LL_lawz) 299 = .ok (.iload 4, 2) from by decide +kernel) rfl).trans ?_
  refine (r_iconst (v := (1 : Int32)) (show decode (zb m_LL_lawz) 301 = .ok (.iconst (1), 1) from by decide +kernel) (by decide)).trans ?_
  refine (r_iadd (show decode (zb m_LL_lawz) 302 = .ok (.iadd, 1) from by decide +kernel)).trans ?_
  refine (r_iald18 (show decode (zb m_LL_lawz) 303 = .ok (.iaload, 1) from by decide +kernel) h1).trans ?_
  refine (r_aloadn 3 (show decode (zb m_LL_lawz) 304 = .ok (.aload_n 3, 1) from by decide +kernel) rfl).trans ?_
  exact r_stat (args := [.ref a1, .int (gI σ 18 (Int32.toNatClampNeg (x4 + (1 : Int32)))), .ref a3]) (rest := []) (show decode (zb m_LL_lawz) 305 = .ok (.invokestatic 122, 3) from by decide +kernel) rfl (by decide) rfl rfl
theorem b_LL_lawz_308 {C : CF} {d : Nat} {σ : HP} {s0 : Int32} {a2 : Nat} {x4 : Int32} {l1 : Option Value} {l3 : Option Value} {l5 : Option Value} {l6 : Option Value} {l7 : Option Value} (h1 : inR (x4 + (1 : Int32)) (hL σ) = true) (h2 : a2 % 64 = 12) : runF C d m_LL_lawz (308, [some (.ref 18), l1, some (.ref a2), l3, some (.int x4), l5, l6, l7], [.int s0], σ) = bk C d m_LL_lawz 317 [some (.ref 18), l1, some (.ref a2), l3, some (.int x4), some (.int s0), l6, l7] [] (C m_Mo_house [.ref a2, .int (gI σ 18 (Int32.toNatClampNeg (x4 + (1 : Int32))))] σ) := by
  refine (r_istore 5 (show decode (zb m_LL_lawz) 308 = .ok (.istore 5, 2) from by decide +kernel) rfl).trans ?_
  refine (r_aloadn 2 (show decode (zb m_LL_lawz) 310 = .ok (.aload_n 2, 1) from by decide +kernel) rfl).trans ?_
  refine (r_aloadn 0 (show decode (zb m_LL_lawz) 311 = .ok (.aload_n 0, 1) from by decide +kernel) rfl).trans ?_
  refine (r_iload 4 (show decode (zb m_LL_lawz) 312 = .ok (.iload 4, 2) from by decide +kernel) rfl).trans ?_
  refine (r_iconst (v := (1 : Int32)) (show decode (zb m_LL_lawz) 314 = .ok (.iconst (1), 1) from by decide +kernel) (by decide)).trans ?_
  refine (r_iadd (show decode (zb m_LL_lawz) 315 = .ok (.iadd, 1) from by decide +kernel)).trans ?_
  refine (r_iald18 (show decode (zb m_LL_lawz) 316 = .ok (.iaload, 1) from by decide +kernel) h1).trans ?_
  exact r_virt (args := [.int (gI σ 18 (Int32.toNatClampNeg (x4 + (1 : Int32))))]) (rest := []) (show decode (zb m_LL_lawz) 317 = .ok (.invokevirtual 127, 3) from by decide +kernel) rfl rfl rfl h2
theorem b_LL_lawz_320 {C : CF} {d : Nat} {σ : HP} {s0 : Int32} {a2 : Nat} {l0 : Option Value} {l1 : Option Value} {l3 : Option Value} {l4 : Option Value} {l5 : Option Value} {l6 : Option Value} {l7 : Option Value} (h1 : a2 % 64 = 12) : runF C d m_LL_lawz (320, [l0, l1, some (.ref a2), l3, l4, l5, l6, l7], [.int s0], σ) = bk C d m_LL_lawz 323 [l0, l1, some (.ref a2), l3, l4, l5, some (.int s0), l7] [] (C m_Mo_thrown [.ref a2] σ) := by
  refine (r_istore 6 (show decode (zb m_LL_lawz) 320 = .ok (.istore 6, 2) from by decide +kernel) rfl).trans ?_
  refine (r_aloadn 2 (show decode (zb m_LL_lawz) 322 = .ok (.aload_n 2, 1) from by decide +kernel) rfl).trans ?_
  exact r_virt (args := []) (rest := []) (show decode (zb m_LL_lawz) 323 = .ok (.invokevirtual 128, 3) from by decide +kernel) rfl rfl rfl h1
theorem b_LL_lawz_326 {C : CF} {d : Nat} {σ : HP} {s0 : Int32} {x5 : Int32} {l0 : Option Value} {l1 : Option Value} {l2 : Option Value} {l3 : Option Value} {l4 : Option Value} {l6 : Option Value} {l7 : Option Value}  : runF C d m_LL_lawz (326, [l0, l1, l2, l3, l4, some (.int x5), l6, l7], [.int s0], σ) = if s0 = x5 then runF C d m_LL_lawz (333, [l0, l1, l2, l3, l4, some (.int x5), l6, l7], [], σ) else runF C d m_LL_lawz (331, [l0, l1, l2, l3, l4, some (.int x5), l6, l7], [], σ) := by
  refine (r_iload 5 (show decode (zb m_LL_lawz) 326 = .ok (.iload 5, 2) from by decide +kernel) rfl).trans ?_
  exact r_icmp_eq 333 (show decode (zb m_LL_lawz) 328 = .ok (.if_icmp .eq (5), 3) from by decide +kernel) rfl
theorem b_LL_lawz_331 {C : CF} {d : Nat} {σ : HP} {l0 : Option Value} {l1 : Option Value} {l2 : Option Value} {l3 : Option Value} {l4 : Option Value} {l5 : Option Value} {l6 : Option Value} {l7 : Option Value}  : runF C d m_LL_lawz (331, [l0, l1, l2, l3, l4, l5, l6, l7], [], σ) = some (.inl (some (.int (0 : Int32))), σ) := by
  refine (r_iconst (v := (0 : Int32)) (show decode (zb m_LL_lawz) 331 = .ok (.iconst (0), 1) from by decide +kernel) (by decide)).trans ?_
  exact r_bret (show decode (zb m_LL_lawz) 332 = .ok (.ireturn, 1) from by decide +kernel) rfl (by decide)
theorem b_LL_lawz_333 {C : CF} {d : Nat} {σ : HP} {x5 : Int32} {l0 : Option Value} {l1 : Option Value} {l2 : Option Value} {l3 : Option Value} {l4 : Option Value} {l6 : Option Value} {l7 : Option Value}  : runF C d m_LL_lawz (333, [l0, l1, l2, l3, l4, some (.int x5), l6, l7], [], σ) = if ¬ x5 = 0 then runF C d m_LL_lawz (350, [l0, l1, l2, l3, l4, some (.int x5), l6, l7], [], σ) else runF C d m_LL_lawz (338, [l0, l1, l2, l3, l4, some (.int x5), l6, l7], [], σ) := by
  refine (r_iload 5 (show decode (zb m_LL_lawz) 333 = .ok (.iload 5, 2) from by decide +kernel) rfl).trans ?_
  exact r_if_ne 350 (show decode (zb m_LL_lawz) 335 = .ok (.ifCond .ne (15), 3) from by decide +kernel) rfl
theorem b_LL_lawz_338 {C : CF} {d : Nat} {σ : HP} {a3 : Nat} {x6 : Int32} {l0 : Option Value} {l1 : Option Value} {l2 : Option Value} {l4 : Option Value} {l5 : Option Value} {l7 : Option Value} (h1 : aty (a3 % 64) = 2) (h2 : inR (0 : Int32) (alen (a3 % 64)) = true) : runF C d m_LL_lawz (338, [l0, l1, l2, some (.ref a3), l4, l5, some (.int x6), l7], [], σ) = if (lg_cmp (gJ σ a3 (Int32.toNatClampNeg (0 : Int32))) (Int32.toInt64 x6)) = 0 then runF C d m_LL_lawz (350, [l0, l1, l2, some (.ref a3), l4, l5, some (.int x6), l7], [], σ) else runF C d m_LL_lawz (348, [l0, l1, l2, some (.ref a3), l4, l5, some (.int x6), l7], [], σ) := by
  refine (r_aloadn 3 (show decode (zb m_LL_lawz) 338 = .ok (.aload_n 3, 1) from by decide +kernel) rfl).trans ?_
  refine (r_iconst (v := (0 : Int32)) (show decode (zb m_LL_lawz) 339 = .ok (.iconst (0), 1) from by decide +kernel) (by decide)).trans ?_
  refine (r_lald (show decode (zb m_LL_lawz) 340 = .ok (.laload, 1) from by decide +kernel) h1 h2).trans ?_
  refine (r_iload 6 (show decode (zb m_LL_lawz) 341 = .ok (.iload 6, 2) from by decide +kernel) rfl).trans ?_
  refine (r_i2l (show decode (zb m_LL_lawz) 343 = .ok (.i2l, 1) from by decide +kernel)).trans ?_
  refine (r_lcmp (show decode (zb m_LL_lawz) 344 = .ok (.lcmp, 1) from by decide +kernel)).trans ?_
  exact r_if_eq 350 (show decode (zb m_LL_lawz) 345 = .ok (.ifCond .eq (5), 3) from by decide +kernel) rfl
theorem b_LL_lawz_348 {C : CF} {d : Nat} {σ : HP} {l0 : Option Value} {l1 : Option Value} {l2 : Option Value} {l3 : Option Value} {l4 : Option Value} {l5 : Option Value} {l6 : Option Value} {l7 : Option Value}  : runF C d m_LL_lawz (348, [l0, l1, l2, l3, l4, l5, l6, l7], [], σ) = some (.inl (some (.int (0 : Int32))), σ) := by
  refine (r_iconst (v := (0 : Int32)) (show decode (zb m_LL_lawz) 348 = .ok (.iconst (0), 1) from by decide +kernel) (by decide)).trans ?_
  exact r_bret (show decode (zb m_LL_lawz) 349 = .ok (.ireturn, 1) from by decide +kernel) rfl (by decide)
theorem b_LL_lawz_350 {C : CF} {d : Nat} {σ : HP} {l0 : Option Value} {l1 : Option Value} {l2 : Option Value} {l3 : Option Value} {l4 : Option Value} {l5 : Option Value} {l6 : Option Value} {l7 : Option Value}  : runF C d m_LL_lawz (350, [l0, l1, l2, l3, l4, l5, l6, l7], [], σ) = runF C d m_LL_lawz (2580, [l0, l1, l2, l3, l4, l5, l6, l7], [], σ) := by
  exact r_goto 2580 (show decode (zb m_LL_lawz) 350 = .ok (.goto (2230), 3) from by decide +kernel) rfl
theorem b_LL_lawz_353 {C : CF} {d : Nat} {σ : HP} {a1 : Nat} {x4 : Int32} {a3 : Nat} {l2 : Option Value} {l5 : Option Value} {l6 : Option Value} {l7 : Option Value} (h1 : inR (x4 + (1 : Int32)) (hL σ) = true) : runF C d m_LL_lawz (353, [some (.ref 18), some (.ref a1), l2, some (.ref a3), some (.int x4), l5, l6, l7], [], σ) = bkN C d m_LL_lawz 361 [some (.ref 18), some (.ref a1), l2, some (.ref a3), some (.int x4), l5, l6, l7] [] (C m_LL_law [.ref a1, .int (gI σ 18 (Int32.toNatClampNeg (x4 + (1 : Int32)))), .ref a3] σ) := by
  refine (r_aloadn 1 (show decode (zb m_LL_lawz) 353 = .ok (.aload_n 1, 1) from by decide +kernel) rfl).trans ?_
  refine (r_aloadn 0 (show decode (zb m_LL_lawz) 354 = .ok (.aload_n 0, 1) from by decide +kernel) rfl).trans ?_
  refine (r_iload 4 (show decode (zb m_LL_lawz) 355 = .ok (.iload 4, 2) from by decide +kernel) rfl).trans ?_
  refine (r_iconst (v := (1 : Int32)) (show decode (zb m_LL_lawz) 357 = .ok (.iconst (1), 1) from by decide +kernel) (by decide)).trans ?_
  refine (r_iadd (show decode (zb m_LL_lawz) 358 = .ok (.iadd, 1) from by decide +kernel)).trans ?_
  refine (r_iald18 (show decode (zb m_LL_lawz) 359 = .ok (.iaload, 1) from by decide +kernel) h1).trans ?_
  refine (r_aloadn 3 (show decode (zb m_LL_lawz) 360 = .ok (.aload_n 3, 1) from by decide +kernel) rfl).trans ?_
  exact r_stat (args := [.ref a1, .int (gI σ 18 (Int32.toNatClampNeg (x4 + (1 : Int32)))), .ref a3]) (rest := []) (show decode (zb m_LL_lawz) 361 = .ok (.invokestatic 132, 3) from by decide +kernel) rfl (by decide) rfl rfl
theorem b_LL_lawz_364 {C : CF} {d : Nat} {σ : HP} {s0 : Int32} {a2 : Nat} {x4 : Int32} {l1 : Option Value} {l3 : Option Value} {l5 : Option Value} {l6 : Option Value} {l7 : Option Value} (h1 : inR (x4 + (1 : Int32)) (hL σ) = true) (h2 : a2 % 64 = 12) : runF C d m_LL_lawz (364, [some (.ref 18), l1, some (.ref a2), l3, some (.int x4), l5, l6, l7], [.int s0], σ) = bk C d m_LL_lawz 373 [some (.ref 18), l1, some (.ref a2), l3, some (.int x4), some (.int s0), l6, l7] [] (C m_Mo_law [.ref a2, .int (gI σ 18 (Int32.toNatClampNeg (x4 + (1 : Int32))))] σ) := by
  refine (r_istore 5 (show decode (zb m_LL_lawz) 364 = .ok (.istore 5, 2) from by decide +kernel) rfl).trans ?_
  refine (r_aloadn 2 (show decode (zb m_LL_lawz) 366 = .ok (.aload_n 2, 1) from by decide +kernel) rfl).trans ?_
  refine (r_aloadn 0 (show decode (zb m_LL_lawz) 367 = .ok (.aload_n 0, 1) from by decide +kernel) rfl).trans ?_
  refine (r_iload 4 (show decode (zb m_LL_lawz) 368 = .ok (.iload 4, 2) from by decide +kernel) rfl).trans ?_
  refine (r_iconst (v := (1 : Int32)) (show decode (zb m_LL_lawz) 370 = .ok (.iconst (1), 1) from by decide +kernel) (by decide)).trans ?_
  refine (r_iadd (show decode (zb m_LL_lawz) 371 = .ok (.iadd, 1) from by decide +kernel)).trans ?_
  refine (r_iald18 (show decode (zb m_LL_lawz) 372 = .ok (.iaload, 1) from by decide +kernel) h1).trans ?_
  exact r_virt (args := [.int (gI σ 18 (Int32.toNatClampNeg (x4 + (1 : Int32))))]) (rest := []) (show decode (zb m_LL_lawz) 373 = .ok (.invokevirtual 134, 3) from by decide +kernel) rfl rfl rfl h2
theorem b_LL_lawz_376 {C : CF} {d : Nat} {σ : HP} {s0 : Int32} {a2 : Nat} {l0 : Option Value} {l1 : Option Value} {l3 : Option Value} {l4 : Option Value} {l5 : Option Value} {l6 : Option Value} {l7 : Option Value} (h1 : a2 % 64 = 12) : runF C d m_LL_lawz (376, [l0, l1, some (.ref a2), l3, l4, l5, l6, l7], [.int s0], σ) = bk C d m_LL_lawz 379 [l0, l1, some (.ref a2), l3, l4, l5, some (.int s0), l7] [] (C m_Mo_thrown [.ref a2] σ) := by
  refine (r_istore 6 (show decode (zb m_LL_lawz) 376 = .ok (.istore 6, 2) from by decide +kernel) rfl).trans ?_
  refine (r_aloadn 2 (show decode (zb m_LL_lawz) 378 = .ok (.aload_n 2, 1) from by decide +kernel) rfl).trans ?_
  exact r_virt (args := []) (rest := []) (show decode (zb m_LL_lawz) 379 = .ok (.invokevirtual 128, 3) from by decide +kernel) rfl rfl rfl h1
theorem b_LL_lawz_382 {C : CF} {d : Nat} {σ : HP} {s0 : Int32} {x5 : Int32} {l0 : Option Value} {l1 : Option Value} {l2 : Option Value} {l3 : Option Value} {l4 : Option Value} {l6 : Option Value} {l7 : Option Value}  : runF C d m_LL_lawz (382, [l0, l1, l2, l3, l4, some (.int x5), l6, l7], [.int s0], σ) = if s0 = x5 then runF C d m_LL_lawz (389, [l0, l1, l2, l3, l4, some (.int x5), l6, l7], [], σ) else runF C d m_LL_lawz (387, [l0, l1, l2, l3, l4, some (.int x5), l6, l7], [], σ) := by
  refine (r_iload 5 (show decode (zb m_LL_lawz) 382 = .ok (.iload 5, 2) from by decide +kernel) rfl).trans ?_
  exact r_icmp_eq 389 (show decode (zb m_LL_lawz) 384 = .ok (.if_icmp .eq (5), 3) from by decide +kernel) rfl
theorem b_LL_lawz_387 {C : CF} {d : Nat} {σ : HP} {l0 : Option Value} {l1 : Option Value} {l2 : Option Value} {l3 : Option Value} {l4 : Option Value} {l5 : Option Value} {l6 : Option Value} {l7 : Option Value}  : runF C d m_LL_lawz (387, [l0, l1, l2, l3, l4, l5, l6, l7], [], σ) = some (.inl (some (.int (0 : Int32))), σ) := by
  refine (r_iconst (v := (0 : Int32)) (show decode (zb m_LL_lawz) 387 = .ok (.iconst (0), 1) from by decide +kernel) (by decide)).trans ?_
  exact r_bret (show decode (zb m_LL_lawz) 388 = .ok (.ireturn, 1) from by decide +kernel) rfl (by decide)
theorem b_LL_lawz_389 {C : CF} {d : Nat} {σ : HP} {x5 : Int32} {l0 : Option Value} {l1 : Option Value} {l2 : Option Value} {l3 : Option Value} {l4 : Option Value} {l6 : Option Value} {l7 : Option Value}  : runF C d m_LL_lawz (389, [l0, l1, l2, l3, l4, some (.int x5), l6, l7], [], σ) = if ¬ x5 = 0 then runF C d m_LL_lawz (406, [l0, l1, l2, l3, l4, some (.int x5), l6, l7], [], σ) else runF C d m_LL_lawz (394, [l0, l1, l2, l3, l4, some (.int x5), l6, l7], [], σ) := by
  refine (r_iload 5 (show decode (zb m_LL_lawz) 389 = .ok (.iload 5, 2) from by decide +kernel) rfl).trans ?_
  exact r_if_ne 406 (show decode (zb m_LL_lawz) 391 = .ok (.ifCond .ne (15), 3) from by decide +kernel) rfl
theorem b_LL_lawz_394 {C : CF} {d : Nat} {σ : HP} {a3 : Nat} {x6 : Int32} {l0 : Option Value} {l1 : Option Value} {l2 : Option Value} {l4 : Option Value} {l5 : Option Value} {l7 : Option Value} (h1 : aty (a3 % 64) = 2) (h2 : inR (0 : Int32) (alen (a3 % 64)) = true) : runF C d m_LL_lawz (394, [l0, l1, l2, some (.ref a3), l4, l5, some (.int x6), l7], [], σ) = if (lg_cmp (gJ σ a3 (Int32.toNatClampNeg (0 : Int32))) (Int32.toInt64 x6)) = 0 then runF C d m_LL_lawz (406, [l0, l1, l2, some (.ref a3), l4, l5, some (.int x6), l7], [], σ) else runF C d m_LL_lawz (404, [l0, l1, l2, some (.ref a3), l4, l5, some (.int x6), l7], [], σ) := by
  refine (r_aloadn 3 (show decode (zb m_LL_lawz) 394 = .ok (.aload_n 3, 1) from by decide +kernel) rfl).trans ?_
  refine (r_iconst (v := (0 : Int32)) (show decode (zb m_LL_lawz) 395 = .ok (.iconst (0), 1) from by decide +kernel) (by decide)).trans ?_
  refine (r_lald (show decode (zb m_LL_lawz) 396 = .ok (.laload, 1) from by decide +kernel) h1 h2).trans ?_
  refine (r_iload 6 (show decode (zb m_LL_lawz) 397 = .ok (.iload 6, 2) from by decide +kernel) rfl).trans ?_
  refine (r_i2l (show decode (zb m_LL_lawz) 399 = .ok (.i2l, 1) from by decide +kernel)).trans ?_
  refine (r_lcmp (show decode (zb m_LL_lawz) 400 = .ok (.lcmp, 1) from by decide +kernel)).trans ?_
  exact r_if_eq 406 (show decode (zb m_LL_lawz) 401 = .ok (.ifCond .eq (5), 3) from by decide +kernel) rfl
theorem b_LL_lawz_404 {C : CF} {d : Nat} {σ : HP} {l0 : Option Value} {l1 : Option Value} {l2 : Option Value} {l3 : Option Value} {l4 : Option Value} {l5 : Option Value} {l6 : Option Value} {l7 : Option Value}  : runF C d m_LL_lawz (404, [l0, l1, l2, l3, l4, l5, l6, l7], [], σ) = some (.inl (some (.int (0 : Int32))), σ) := by
  refine (r_iconst (v := (0 : Int32)) (show decode (zb m_LL_lawz) 404 = .ok (.iconst (0), 1) from by decide +kernel) (by decide)).trans ?_
  exact r_bret (show decode (zb m_LL_lawz) 405 = .ok (.ireturn, 1) from by decide +kernel) rfl (by decide)
theorem b_LL_lawz_406 {C : CF} {d : Nat} {σ : HP} {l0 : Option Value} {l1 : Option Value} {l2 : Option Value} {l3 : Option Value} {l4 : Option Value} {l5 : Option Value} {l6 : Option Value} {l7 : Option Value}  : runF C d m_LL_lawz (406, [l0, l1, l2, l3, l4, l5, l6, l7], [], σ) = runF C d m_LL_lawz (2580, [l0, l1, l2, l3, l4, l5, l6, l7], [], σ) := by
  exact r_goto 2580 (show decode (zb m_LL_lawz) 406 = .ok (.goto (2174), 3) from by decide +kernel) rfl
theorem b_LL_lawz_409 {C : CF} {d : Nat} {σ : HP} {a1 : Nat} {x4 : Int32} {a3 : Nat} {l2 : Option Value} {l5 : Option Value} {l6 : Option Value} {l7 : Option Value} (h1 : inR (x4 + (1 : Int32)) (hL σ) = true) : runF C d m_LL_lawz (409, [some (.ref 18), some (.ref a1), l2, some (.ref a3), some (.int x4), l5, l6, l7], [], σ) = bkN C d m_LL_lawz 417 [some (.ref 18), some (.ref a1), l2, some (.ref a3), some (.int x4), l5, l6, l7] [] (C m_LL_work [.ref a1, .int (gI σ 18 (Int32.toNatClampNeg (x4 + (1 : Int32)))), .ref a3] σ) := by
  refine (r_aloadn 1 (show decode (zb m_LL_lawz) 409 = .ok (.aload_n 1, 1) from by decide +kernel) rfl).trans ?_
  refine (r_aloadn 0 (show decode (zb m_LL_lawz) 410 = .ok (.aload_n 0, 1) from by decide +kernel) rfl).trans ?_
  refine (r_iload 4 (show decode (zb m_LL_lawz) 411 = .ok (.iload 4, 2) from by decide +kernel) rfl).trans ?_
  refine (r_iconst (v := (1 : Int32)) (show decode (zb m_LL_lawz) 413 = .ok (.iconst (1), 1) from by decide +kernel) (by decide)).trans ?_
  refine (r_iadd (show decode (zb m_LL_lawz) 414 = .ok (.iadd, 1) from by decide +kernel)).trans ?_
  refine (r_iald18 (show decode (zb m_LL_lawz) 415 = .ok (.iaload, 1) from by decide +kernel) h1).trans ?_
  refine (r_aloadn 3 (show decode (zb m_LL_lawz) 416 = .ok (.aload_n 3, 1) from by decide +kernel) rfl).trans ?_
  exact r_stat (args := [.ref a1, .int (gI σ 18 (Int32.toNatClampNeg (x4 + (1 : Int32)))), .ref a3]) (rest := []) (show decode (zb m_LL_lawz) 417 = .ok (.invokestatic 135, 3) from by decide +kernel) rfl (by decide) rfl rfl
theorem b_LL_lawz_420 {C : CF} {d : Nat} {σ : HP} {s0 : Int32} {a2 : Nat} {x4 : Int32} {l1 : Option Value} {l3 : Option Value} {l5 : Option Value} {l6 : Option Value} {l7 : Option Value} (h1 : inR (x4 + (1 : Int32)) (hL σ) = true) (h2 : a2 % 64 = 12) : runF C d m_LL_lawz (420, [some (.ref 18), l1, some (.ref a2), l3, some (.int x4), l5, l6, l7], [.int s0], σ) = bk C d m_LL_lawz 429 [some (.ref 18), l1, some (.ref a2), l3, some (.int x4), some (.int s0), l6, l7] [] (C m_Mo_work [.ref a2, .int (gI σ 18 (Int32.toNatClampNeg (x4 + (1 : Int32))))] σ) := by
  refine (r_istore 5 (show decode (zb m_LL_lawz) 420 = .ok (.istore 5, 2) from by decide +kernel) rfl).trans ?_
  refine (r_aloadn 2 (show decode (zb m_LL_lawz) 422 = .ok (.aload_n 2, 1) from by decide +kernel) rfl).trans ?_
  refine (r_aloadn 0 (show decode (zb m_LL_lawz) 423 = .ok (.aload_n 0, 1) from by decide +kernel) rfl).trans ?_
  refine (r_iload 4 (show decode (zb m_LL_lawz) 424 = .ok (.iload 4, 2) from by decide +kernel) rfl).trans ?_
  refine (r_iconst (v := (1 : Int32)) (show decode (zb m_LL_lawz) 426 = .ok (.iconst (1), 1) from by decide +kernel) (by decide)).trans ?_
  refine (r_iadd (show decode (zb m_LL_lawz) 427 = .ok (.iadd, 1) from by decide +kernel)).trans ?_
  refine (r_iald18 (show decode (zb m_LL_lawz) 428 = .ok (.iaload, 1) from by decide +kernel) h1).trans ?_
  exact r_virt (args := [.int (gI σ 18 (Int32.toNatClampNeg (x4 + (1 : Int32))))]) (rest := []) (show decode (zb m_LL_lawz) 429 = .ok (.invokevirtual 137, 3) from by decide +kernel) rfl rfl rfl h2
theorem b_LL_lawz_432 {C : CF} {d : Nat} {σ : HP} {s0 : Int32} {a2 : Nat} {l0 : Option Value} {l1 : Option Value} {l3 : Option Value} {l4 : Option Value} {l5 : Option Value} {l6 : Option Value} {l7 : Option Value} (h1 : a2 % 64 = 12) : runF C d m_LL_lawz (432, [l0, l1, some (.ref a2), l3, l4, l5, l6, l7], [.int s0], σ) = bk C d m_LL_lawz 435 [l0, l1, some (.ref a2), l3, l4, l5, some (.int s0), l7] [] (C m_Mo_thrown [.ref a2] σ) := by
  refine (r_istore 6 (show decode (zb m_LL_lawz) 432 = .ok (.istore 6, 2) from by decide +kernel) rfl).trans ?_
  refine (r_aloadn 2 (show decode (zb m_LL_lawz) 434 = .ok (.aload_n 2, 1) from by decide +kernel) rfl).trans ?_
  exact r_virt (args := []) (rest := []) (show decode (zb m_LL_lawz) 435 = .ok (.invokevirtual 128, 3) from by decide +kernel) rfl rfl rfl h1
theorem b_LL_lawz_438 {C : CF} {d : Nat} {σ : HP} {s0 : Int32} {x5 : Int32} {l0 : Option Value} {l1 : Option Value} {l2 : Option Value} {l3 : Option Value} {l4 : Option Value} {l6 : Option Value} {l7 : Option Value}  : runF C d m_LL_lawz (438, [l0, l1, l2, l3, l4, some (.int x5), l6, l7], [.int s0], σ) = if s0 = x5 then runF C d m_LL_lawz (445, [l0, l1, l2, l3, l4, some (.int x5), l6, l7], [], σ) else runF C d m_LL_lawz (443, [l0, l1, l2, l3, l4, some (.int x5), l6, l7], [], σ) := by
  refine (r_iload 5 (show decode (zb m_LL_lawz) 438 = .ok (.iload 5, 2) from by decide +kernel) rfl).trans ?_
  exact r_icmp_eq 445 (show decode (zb m_LL_lawz) 440 = .ok (.if_icmp .eq (5), 3) from by decide +kernel) rfl
theorem b_LL_lawz_443 {C : CF} {d : Nat} {σ : HP} {l0 : Option Value} {l1 : Option Value} {l2 : Option Value} {l3 : Option Value} {l4 : Option Value} {l5 : Option Value} {l6 : Option Value} {l7 : Option Value}  : runF C d m_LL_lawz (443, [l0, l1, l2, l3, l4, l5, l6, l7], [], σ) = some (.inl (some (.int (0 : Int32))), σ) := by
  refine (r_iconst (v := (0 : Int32)) (show decode (zb m_LL_lawz) 443 = .ok (.iconst (0), 1) from by decide +kernel) (by decide)).trans ?_
  exact r_bret (show decode (zb m_LL_lawz) 444 = .ok (.ireturn, 1) from by decide +kernel) rfl (by decide)
theorem b_LL_lawz_445 {C : CF} {d : Nat} {σ : HP} {x5 : Int32} {l0 : Option Value} {l1 : Option Value} {l2 : Option Value} {l3 : Option Value} {l4 : Option Value} {l6 : Option Value} {l7 : Option Value}  : runF C d m_LL_lawz (445, [l0, l1, l2, l3, l4, some (.int x5), l6, l7], [], σ) = if ¬ x5 = 0 then runF C d m_LL_lawz (462, [l0, l1, l2, l3, l4, some (.int x5), l6, l7], [], σ) else runF C d m_LL_lawz (450, [l0, l1, l2, l3, l4, some (.int x5), l6, l7], [], σ) := by
  refine (r_iload 5 (show decode (zb m_LL_lawz) 445 = .ok (.iload 5, 2) from by decide +kernel) rfl).trans ?_
  exact r_if_ne 462 (show decode (zb m_LL_lawz) 447 = .ok (.ifCond .ne (15), 3) from by decide +kernel) rfl
theorem b_LL_lawz_450 {C : CF} {d : Nat} {σ : HP} {a3 : Nat} {x6 : Int32} {l0 : Option Value} {l1 : Option Value} {l2 : Option Value} {l4 : Option Value} {l5 : Option Value} {l7 : Option Value} (h1 : aty (a3 % 64) = 2) (h2 : inR (0 : Int32) (alen (a3 % 64)) = true) : runF C d m_LL_lawz (450, [l0, l1, l2, some (.ref a3), l4, l5, some (.int x6), l7], [], σ) = if (lg_cmp (gJ σ a3 (Int32.toNatClampNeg (0 : Int32))) (Int32.toInt64 x6)) = 0 then runF C d m_LL_lawz (462, [l0, l1, l2, some (.ref a3), l4, l5, some (.int x6), l7], [], σ) else runF C d m_LL_lawz (460, [l0, l1, l2, some (.ref a3), l4, l5, some (.int x6), l7], [], σ) := by
  refine (r_aloadn 3 (show decode (zb m_LL_lawz) 450 = .ok (.aload_n 3, 1) from by decide +kernel) rfl).trans ?_
  refine (r_iconst (v := (0 : Int32)) (show decode (zb m_LL_lawz) 451 = .ok (.iconst (0), 1) from by decide +kernel) (by decide)).trans ?_
  refine (r_lald (show decode (zb m_LL_lawz) 452 = .ok (.laload, 1) from by decide +kernel) h1 h2).trans ?_
  refine (r_iload 6 (show decode (zb m_LL_lawz) 453 = .ok (.iload 6, 2) from by decide +kernel) rfl).trans ?_
  refine (r_i2l (show decode (zb m_LL_lawz) 455 = .ok (.i2l, 1) from by decide +kernel)).trans ?_
  refine (r_lcmp (show decode (zb m_LL_lawz) 456 = .ok (.lcmp, 1) from by decide +kernel)).trans ?_
  exact r_if_eq 462 (show decode (zb m_LL_lawz) 457 = .ok (.ifCond .eq (5), 3) from by decide +kernel) rfl
theorem b_LL_lawz_460 {C : CF} {d : Nat} {σ : HP} {l0 : Option Value} {l1 : Option Value} {l2 : Option Value} {l3 : Option Value} {l4 : Option Value} {l5 : Option Value} {l6 : Option Value} {l7 : Option Value}  : runF C d m_LL_lawz (460, [l0, l1, l2, l3, l4, l5, l6, l7], [], σ) = some (.inl (some (.int (0 : Int32))), σ) := by
  refine (r_iconst (v := (0 : Int32)) (show decode (zb m_LL_lawz) 460 = .ok (.iconst (0), 1) from by decide +kernel) (by decide)).trans ?_
  exact r_bret (show decode (zb m_LL_lawz) 461 = .ok (.ireturn, 1) from by decide +kernel) rfl (by decide)
theorem b_LL_lawz_462 {C : CF} {d : Nat} {σ : HP} {l0 : Option Value} {l1 : Option Value} {l2 : Option Value} {l3 : Option Value} {l4 : Option Value} {l5 : Option Value} {l6 : Option Value} {l7 : Option Value}  : runF C d m_LL_lawz (462, [l0, l1, l2, l3, l4, l5, l6, l7], [], σ) = runF C d m_LL_lawz (2580, [l0, l1, l2, l3, l4, l5, l6, l7], [], σ) := by
  exact r_goto 2580 (show decode (zb m_LL_lawz) 462 = .ok (.goto (2118), 3) from by decide +kernel) rfl
theorem b_LL_lawz_465 {C : CF} {d : Nat} {σ : HP} {a1 : Nat} {x4 : Int32} {a3 : Nat} {l2 : Option Value} {l5 : Option Value} {l6 : Option Value} {l7 : Option Value} (h1 : inR (x4 + (1 : Int32)) (hL σ) = true) : runF C d m_LL_lawz (465, [some (.ref 18), some (.ref a1), l2, some (.ref a3), some (.int x4), l5, l6, l7], [], σ) = bkN C d m_LL_lawz 473 [some (.ref 18), some (.ref a1), l2, some (.ref a3), some (.int x4), l5, l6, l7] [] (C m_LL_book [.ref a1, .int (gI σ 18 (Int32.toNatClampNeg (x4 + (1 : Int32)))), .ref a3] σ) := by
  refine (r_aloadn 1 (show decode (zb m_LL_lawz) 465 = .ok (.aload_n 1, 1) from by decide +kernel) rfl).trans ?_
  refine (r_aloadn 0 (show decode (zb m_LL_lawz) 466 = .ok (.aload_n 0, 1) from by decide +kernel) rfl).trans ?_
  refine (r_iload 4 (show decode (zb m_LL_lawz) 467 = .ok (.iload 4, 2) from by decide +kernel) rfl).trans ?_
  refine (r_iconst (v := (1 : Int32)) (show decode (zb m_LL_lawz) 469 = .ok (.iconst (1), 1) from by decide +kernel) (by decide)).trans ?_
  refine (r_iadd (show decode (zb m_LL_lawz) 470 = .ok (.iadd, 1) from by decide +kernel)).trans ?_
  refine (r_iald18 (show decode (zb m_LL_lawz) 471 = .ok (.iaload, 1) from by decide +kernel) h1).trans ?_
  refine (r_aloadn 3 (show decode (zb m_LL_lawz) 472 = .ok (.aload_n 3, 1) from by decide +kernel) rfl).trans ?_
  exact r_stat (args := [.ref a1, .int (gI σ 18 (Int32.toNatClampNeg (x4 + (1 : Int32)))), .ref a3]) (rest := []) (show decode (zb m_LL_lawz) 473 = .ok (.invokestatic 138, 3) from by decide +kernel) rfl (by decide) rfl rfl
theorem b_LL_lawz_476 {C : CF} {d : Nat} {σ : HP} {s0 : Int32} {a2 : Nat} {x4 : Int32} {l1 : Option Value} {l3 : Option Value} {l5 : Option Value} {l6 : Option Value} {l7 : Option Value} (h1 : inR (x4 + (1 : Int32)) (hL σ) = true) (h2 : a2 % 64 = 12) : runF C d m_LL_lawz (476, [some (.ref 18), l1, some (.ref a2), l3, some (.int x4), l5, l6, l7], [.int s0], σ) = bk C d m_LL_lawz 485 [some (.ref 18), l1, some (.ref a2), l3, some (.int x4), some (.int s0), l6, l7] [] (C m_Mo_book [.ref a2, .int (gI σ 18 (Int32.toNatClampNeg (x4 + (1 : Int32))))] σ) := by
  refine (r_istore 5 (show decode (zb m_LL_lawz) 476 = .ok (.istore 5, 2) from by decide +kernel) rfl).trans ?_
  refine (r_aloadn 2 (show decode (zb m_LL_lawz) 478 = .ok (.aload_n 2, 1) from by decide +kernel) rfl).trans ?_
  refine (r_aloadn 0 (show decode (zb m_LL_lawz) 479 = .ok (.aload_n 0, 1) from by decide +kernel) rfl).trans ?_
  refine (r_iload 4 (show decode (zb m_LL_lawz) 480 = .ok (.iload 4, 2) from by decide +kernel) rfl).trans ?_
  refine (r_iconst (v := (1 : Int32)) (show decode (zb m_LL_lawz) 482 = .ok (.iconst (1), 1) from by decide +kernel) (by decide)).trans ?_
  refine (r_iadd (show decode (zb m_LL_lawz) 483 = .ok (.iadd, 1) from by decide +kernel)).trans ?_
  refine (r_iald18 (show decode (zb m_LL_lawz) 484 = .ok (.iaload, 1) from by decide +kernel) h1).trans ?_
  exact r_virt (args := [.int (gI σ 18 (Int32.toNatClampNeg (x4 + (1 : Int32))))]) (rest := []) (show decode (zb m_LL_lawz) 485 = .ok (.invokevirtual 140, 3) from by decide +kernel) rfl rfl rfl h2
theorem b_LL_lawz_488 {C : CF} {d : Nat} {σ : HP} {s0 : Int32} {a2 : Nat} {l0 : Option Value} {l1 : Option Value} {l3 : Option Value} {l4 : Option Value} {l5 : Option Value} {l6 : Option Value} {l7 : Option Value} (h1 : a2 % 64 = 12) : runF C d m_LL_lawz (488, [l0, l1, some (.ref a2), l3, l4, l5, l6, l7], [.int s0], σ) = bk C d m_LL_lawz 491 [l0, l1, some (.ref a2), l3, l4, l5, some (.int s0), l7] [] (C m_Mo_thrown [.ref a2] σ) := by
  refine (r_istore 6 (show decode (zb m_LL_lawz) 488 = .ok (.istore 6, 2) from by decide +kernel) rfl).trans ?_
  refine (r_aloadn 2 (show decode (zb m_LL_lawz) 490 = .ok (.aload_n 2, 1) from by decide +kernel) rfl).trans ?_
  exact r_virt (args := []) (rest := []) (show decode (zb m_LL_lawz) 491 = .ok (.invokevirtual 128, 3) from by decide +kernel) rfl rfl rfl h1
theorem b_LL_lawz_494 {C : CF} {d : Nat} {σ : HP} {s0 : Int32} {x5 : Int32} {l0 : Option Value} {l1 : Option Value} {l2 : Option Value} {l3 : Option Value} {l4 : Option Value} {l6 : Option Value} {l7 : Option Value}  : runF C d m_LL_lawz (494, [l0, l1, l2, l3, l4, some (.int x5), l6, l7], [.int s0], σ) = if s0 = x5 then runF C d m_LL_lawz (501, [l0, l1, l2, l3, l4, some (.int x5), l6, l7], [], σ) else runF C d m_LL_lawz (499, [l0, l1, l2, l3, l4, some (.int x5), l6, l7], [], σ) := by
  refine (r_iload 5 (show decode (zb m_LL_lawz) 494 = .ok (.iload 5, 2) from by decide +kernel) rfl).trans ?_
  exact r_icmp_eq 501 (show decode (zb m_LL_lawz) 496 = .ok (.if_icmp .eq (5), 3) from by decide +kernel) rfl
theorem b_LL_lawz_499 {C : CF} {d : Nat} {σ : HP} {l0 : Option Value} {l1 : Option Value} {l2 : Option Value} {l3 : Option Value} {l4 : Option Value} {l5 : Option Value} {l6 : Option Value} {l7 : Option Value}  : runF C d m_LL_lawz (499, [l0, l1, l2, l3, l4, l5, l6, l7], [], σ) = some (.inl (some (.int (0 : Int32))), σ) := by
  refine (r_iconst (v := (0 : Int32)) (show decode (zb m_LL_lawz) 499 = .ok (.iconst (0), 1) from by decide +kernel) (by decide)).trans ?_
  exact r_bret (show decode (zb m_LL_lawz) 500 = .ok (.ireturn, 1) from by decide +kernel) rfl (by decide)
theorem b_LL_lawz_501 {C : CF} {d : Nat} {σ : HP} {x5 : Int32} {l0 : Option Value} {l1 : Option Value} {l2 : Option Value} {l3 : Option Value} {l4 : Option Value} {l6 : Option Value} {l7 : Option Value}  : runF C d m_LL_lawz (501, [l0, l1, l2, l3, l4, some (.int x5), l6, l7], [], σ) = if ¬ x5 = 0 then runF C d m_LL_lawz (518, [l0, l1, l2, l3, l4, some (.int x5), l6, l7], [], σ) else runF C d m_LL_lawz (506, [l0, l1, l2, l3, l4, some (.int x5), l6, l7], [], σ) := by
  refine (r_iload 5 (show decode (zb m_LL_lawz) 501 = .ok (.iload 5, 2) from by decide +kernel) rfl).trans ?_
  exact r_if_ne 518 (show decode (zb m_LL_lawz) 503 = .ok (.ifCond .ne (15), 3) from by decide +kernel) rfl
theorem b_LL_lawz_506 {C : CF} {d : Nat} {σ : HP} {a3 : Nat} {x6 : Int32} {l0 : Option Value} {l1 : Option Value} {l2 : Option Value} {l4 : Option Value} {l5 : Option Value} {l7 : Option Value} (h1 : aty (a3 % 64) = 2) (h2 : inR (0 : Int32) (alen (a3 % 64)) = true) : runF C d m_LL_lawz (506, [l0, l1, l2, some (.ref a3), l4, l5, some (.int x6), l7], [], σ) = if (lg_cmp (gJ σ a3 (Int32.toNatClampNeg (0 : Int32))) (Int32.toInt64 x6)) = 0 then runF C d m_LL_lawz (518, [l0, l1, l2, some (.ref a3), l4, l5, some (.int x6), l7], [], σ) else runF C d m_LL_lawz (516, [l0, l1, l2, some (.ref a3), l4, l5, some (.int x6), l7], [], σ) := by
  refine (r_aloadn 3 (show decode (zb m_LL_lawz) 506 = .ok (.aload_n 3, 1) from by decide +kernel) rfl).trans ?_
  refine (r_iconst (v := (0 : Int32)) (show decode (zb m_LL_lawz) 507 = .ok (.iconst (0), 1) from by decide +kernel) (by decide)).trans ?_
  refine (r_lald (show decode (zb m_LL_lawz) 508 = .ok (.laload, 1) from by decide +kernel) h1 h2).trans ?_
  refine (r_iload 6 (show decode (zb m_LL_lawz) 509 = .ok (.iload 6, 2) from by decide +kernel) rfl).trans ?_
  refine (r_i2l (show decode (zb m_LL_lawz) 511 = .ok (.i2l, 1) from by decide +kernel)).trans ?_
  refine (r_lcmp (show decode (zb m_LL_lawz) 512 = .ok (.lcmp, 1) from by decide +kernel)).trans ?_
  exact r_if_eq 518 (show decode (zb m_LL_lawz) 513 = .ok (.ifCond .eq (5), 3) from by decide +kernel) rfl
theorem b_LL_lawz_516 {C : CF} {d : Nat} {σ : HP} {l0 : Option Value} {l1 : Option Value} {l2 : Option Value} {l3 : Option Value} {l4 : Option Value} {l5 : Option Value} {l6 : Option Value} {l7 : Option Value}  : runF C d m_LL_lawz (516, [l0, l1, l2, l3, l4, l5, l6, l7], [], σ) = some (.inl (some (.int (0 : Int32))), σ) := by
  refine (r_iconst (v := (0 : Int32)) (show decode (zb m_LL_lawz) 516 = .ok (.iconst (0), 1) from by decide +kernel) (by decide)).trans ?_
  exact r_bret (show decode (zb m_LL_lawz) 517 = .ok (.ireturn, 1) from by decide +kernel) rfl (by decide)
theorem b_LL_lawz_518 {C : CF} {d : Nat} {σ : HP} {l0 : Option Value} {l1 : Option Value} {l2 : Option Value} {l3 : Option Value} {l4 : Option Value} {l5 : Option Value} {l6 : Option Value} {l7 : Option Value}  : runF C d m_LL_lawz (518, [l0, l1, l2, l3, l4, l5, l6, l7], [], σ) = runF C d m_LL_lawz (2580, [l0, l1, l2, l3, l4, l5, l6, l7], [], σ) := by
  exact r_goto 2580 (show decode (zb m_LL_lawz) 518 = .ok (.goto (2062), 3) from by decide +kernel) rfl
theorem b_LL_lawz_521 {C : CF} {d : Nat} {σ : HP} {a1 : Nat} {l0 : Option Value} {l2 : Option Value} {l3 : Option Value} {l4 : Option Value} {l5 : Option Value} {l6 : Option Value} {l7 : Option Value} (h1 : a1 % 64 = 11) : runF C d m_LL_lawz (521, [l0, some (.ref a1), l2, l3, l4, l5, l6, l7], [], σ) = bk C d m_LL_lawz 522 [l0, some (.ref a1), l2, l3, l4, l5, l6, l7] [] (C m_PL_fault [.ref a1] σ) := by
  refine (r_aloadn 1 (show decode (zb m_LL_lawz) 521 = .ok (.aload_n 1, 1) from by decide +kernel) rfl).trans ?_
  exact r_virt (args := []) (rest := []) (show decode (zb m_LL_lawz) 522 = .ok (.invokevirtual 141, 3) from by decide +kernel) rfl rfl rfl h1
theorem b_LL_lawz_525 {C : CF} {d : Nat} {σ : HP} {s0 : Int32} {a2 : Nat} {l0 : Option Value} {l1 : Option Value} {l3 : Option Value} {l4 : Option Value} {l5 : Option Value} {l6 : Option Value} {l7 : Option Value} (h1 : a2 % 64 = 12) : runF C d m_LL_lawz (525, [l0, l1, some (.ref a2), l3, l4, l5, l6, l7], [.int s0], σ) = bk C d m_LL_lawz 526 [l0, l1, some (.ref a2), l3, l4, l5, l6, l7] [.int s0] (C m_Mo_fault [.ref a2] σ) := by
  refine (r_aloadn 2 (show decode (zb m_LL_lawz) 525 = .ok (.aload_n 2, 1) from by decide +kernel) rfl).trans ?_
  exact r_virt (args := []) (rest := [.int s0]) (show decode (zb m_LL_lawz) 526 = .ok (.invokevirtual 144, 3) from by decide +kernel) rfl rfl rfl h1
theorem b_LL_lawz_529 {C : CF} {d : Nat} {σ : HP} {s0 : Int32} {s1 : Int32} {l0 : Option Value} {l1 : Option Value} {l2 : Option Value} {l3 : Option Value} {l4 : Option Value} {l5 : Option Value} {l6 : Option Value} {l7 : Option Value}  : runF C d m_LL_lawz (529, [l0, l1, l2, l3, l4, l5, l6, l7], [.int s0, .int s1], σ) = if s1 = s0 then runF C d m_LL_lawz (2580, [l0, l1, l2, l3, l4, l5, l6, l7], [], σ) else runF C d m_LL_lawz (532, [l0, l1, l2, l3, l4, l5, l6, l7], [], σ) := by
  exact r_icmp_eq 2580 (show decode (zb m_LL_lawz) 529 = .ok (.if_icmp .eq (2051), 3) from by decide +kernel) rfl
theorem b_LL_lawz_532 {C : CF} {d : Nat} {σ : HP} {l0 : Option Value} {l1 : Option Value} {l2 : Option Value} {l3 : Option Value} {l4 : Option Value} {l5 : Option Value} {l6 : Option Value} {l7 : Option Value}  : runF C d m_LL_lawz (532, [l0, l1, l2, l3, l4, l5, l6, l7], [], σ) = some (.inl (some (.int (0 : Int32))), σ) := by
  refine (r_iconst (v := (0 : Int32)) (show decode (zb m_LL_lawz) 532 = .ok (.iconst (0), 1) from by decide +kernel) (by decide)).trans ?_
  exact r_bret (show decode (zb m_LL_lawz) 533 = .ok (.ireturn, 1) from by decide +kernel) rfl (by decide)
theorem b_LL_lawz_534 {C : CF} {d : Nat} {σ : HP} {a1 : Nat} {l0 : Option Value} {l2 : Option Value} {l3 : Option Value} {l4 : Option Value} {l5 : Option Value} {l6 : Option Value} {l7 : Option Value} (h1 : a1 % 64 = 11) : runF C d m_LL_lawz (534, [l0, some (.ref a1), l2, l3, l4, l5, l6, l7], [], σ) = bk C d m_LL_lawz 535 [l0, some (.ref a1), l2, l3, l4, l5, l6, l7] [] (C m_PL_undo [.ref a1] σ) := by
  refine (r_aloadn 1 (show decode (zb m_LL_lawz) 534 = .ok (.aload_n 1, 1) from by decide +kernel) rfl).trans ?_
  exact r_virt (args := []) (rest := []) (show decode (zb m_LL_lawz) 535 = .ok (.invokevirtual 145, 3) from by decide +kernel) rfl rfl rfl h1
theorem b_LL_lawz_538 {C : CF} {d : Nat} {σ : HP} {s0 : Int32} {a2 : Nat} {l0 : Option Value} {l1 : Option Value} {l3 : Option Value} {l4 : Option Value} {l5 : Option Value} {l6 : Option Value} {l7 : Option Value} (h1 : a2 % 64 = 12) : runF C d m_LL_lawz (538, [l0, l1, some (.ref a2), l3, l4, l5, l6, l7], [.int s0], σ) = bk C d m_LL_lawz 539 [l0, l1, some (.ref a2), l3, l4, l5, l6, l7] [.int s0] (C m_Mo_undo [.ref a2] σ) := by
  refine (r_aloadn 2 (show decode (zb m_LL_lawz) 538 = .ok (.aload_n 2, 1) from by decide +kernel) rfl).trans ?_
  exact r_virt (args := []) (rest := [.int s0]) (show decode (zb m_LL_lawz) 539 = .ok (.invokevirtual 148, 3) from by decide +kernel) rfl rfl rfl h1
theorem b_LL_lawz_542 {C : CF} {d : Nat} {σ : HP} {s0 : Int32} {s1 : Int32} {l0 : Option Value} {l1 : Option Value} {l2 : Option Value} {l3 : Option Value} {l4 : Option Value} {l5 : Option Value} {l6 : Option Value} {l7 : Option Value}  : runF C d m_LL_lawz (542, [l0, l1, l2, l3, l4, l5, l6, l7], [.int s0, .int s1], σ) = if s1 = s0 then runF C d m_LL_lawz (2580, [l0, l1, l2, l3, l4, l5, l6, l7], [], σ) else runF C d m_LL_lawz (545, [l0, l1, l2, l3, l4, l5, l6, l7], [], σ) := by
  exact r_icmp_eq 2580 (show decode (zb m_LL_lawz) 542 = .ok (.if_icmp .eq (2038), 3) from by decide +kernel) rfl
theorem b_LL_lawz_545 {C : CF} {d : Nat} {σ : HP} {l0 : Option Value} {l1 : Option Value} {l2 : Option Value} {l3 : Option Value} {l4 : Option Value} {l5 : Option Value} {l6 : Option Value} {l7 : Option Value}  : runF C d m_LL_lawz (545, [l0, l1, l2, l3, l4, l5, l6, l7], [], σ) = some (.inl (some (.int (0 : Int32))), σ) := by
  refine (r_iconst (v := (0 : Int32)) (show decode (zb m_LL_lawz) 545 = .ok (.iconst (0), 1) from by decide +kernel) (by decide)).trans ?_
  exact r_bret (show decode (zb m_LL_lawz) 546 = .ok (.ireturn, 1) from by decide +kernel) rfl (by decide)
theorem b_LL_lawz_547 {C : CF} {d : Nat} {σ : HP} {a1 : Nat} {x4 : Int32} {a3 : Nat} {l2 : Option Value} {l5 : Option Value} {l6 : Option Value} {l7 : Option Value} (h1 : inR (x4 + (1 : Int32)) (hL σ) = true) : runF C d m_LL_lawz (547, [some (.ref 18), some (.ref a1), l2, some (.ref a3), some (.int x4), l5, l6, l7], [], σ) = bkN C d m_LL_lawz 555 [some (.ref 18), some (.ref a1), l2, some (.ref a3), some (.int x4), l5, l6, l7] [] (C m_LL_told [.ref a1, .int (gI σ 18 (Int32.toNatClampNeg (x4 + (1 : Int32)))), .ref a3] σ) := by
  refine (r_aloadn 1 (show decode (zb m_LL_lawz) 547 = .ok (.aload_n 1, 1) from by decide +kernel) rfl).trans ?_
  refine (r_aloadn 0 (show decode (zb m_LL_lawz) 548 = .ok (.aload_n 0, 1) from by decide +kernel) rfl).trans ?_
  refine (r_iload 4 (show decode (zb m_LL_lawz) 549 = .ok (.iload 4, 2) from by decide +kernel) rfl).trans ?_
  refine (r_iconst (v := (1 : Int32)) (show decode (zb m_LL_lawz) 551 = .ok (.iconst (1), 1) from by decide +kernel) (by decide)).trans ?_
  refine (r_iadd (show decode (zb m_LL_lawz) 552 = .ok (.iadd, 1) from by decide +kernel)).trans ?_
  refine (r_iald18 (show decode (zb m_LL_lawz) 553 = .ok (.iaload, 1) from by decide +kernel) h1).trans ?_
  refine (r_aloadn 3 (show decode (zb m_LL_lawz) 554 = .ok (.aload_n 3, 1) from by decide +kernel) rfl).trans ?_
  exact r_stat (args := [.ref a1, .int (gI σ 18 (Int32.toNatClampNeg (x4 + (1 : Int32)))), .ref a3]) (rest := []) (show decode (zb m_LL_lawz) 555 = .ok (.invokestatic 149, 3) from by decide +kernel) rfl (by decide) rfl rfl
theorem b_LL_lawz_558 {C : CF} {d : Nat} {σ : HP} {s0 : Int32} {a2 : Nat} {x4 : Int32} {l1 : Option Value} {l3 : Option Value} {l5 : Option Value} {l6 : Option Value} {l7 : Option Value} (h1 : inR (x4 + (1 : Int32)) (hL σ) = true) (h2 : a2 % 64 = 12) : runF C d m_LL_lawz (558, [some (.ref 18), l1, some (.ref a2), l3, some (.int x4), l5, l6, l7], [.int s0], σ) = bk C d m_LL_lawz 567 [some (.ref 18), l1, some (.ref a2), l3, some (.int x4), some (.int s0), l6, l7] [] (C m_Mo_told [.ref a2, .int (gI σ 18 (Int32.toNatClampNeg (x4 + (1 : Int32))))] σ) := by
  refine (r_istore 5 (show decode (zb m_LL_lawz) 558 = .ok (.istore 5, 2) from by decide +kernel) rfl).trans ?_
  refine (r_aloadn 2 (show decode (zb m_LL_lawz) 560 = .ok (.aload_n 2, 1) from by decide +kernel) rfl).trans ?_
  refine (r_aloadn 0 (show decode (zb m_LL_lawz) 561 = .ok (.aload_n 0, 1) from by decide +kernel) rfl).trans ?_
  refine (r_iload 4 (show decode (zb m_LL_lawz) 562 = .ok (.iload 4, 2) from by decide +kernel) rfl).trans ?_
  refine (r_iconst (v := (1 : Int32)) (show decode (zb m_LL_lawz) 564 = .ok (.iconst (1), 1) from by decide +kernel) (by decide)).trans ?_
  refine (r_iadd (show decode (zb m_LL_lawz) 565 = .ok (.iadd, 1) from by decide +kernel)).trans ?_
  refine (r_iald18 (show decode (zb m_LL_lawz) 566 = .ok (.iaload, 1) from by decide +kernel) h1).trans ?_
  exact r_virt (args := [.int (gI σ 18 (Int32.toNatClampNeg (x4 + (1 : Int32))))]) (rest := []) (show decode (zb m_LL_lawz) 567 = .ok (.invokevirtual 151, 3) from by decide +kernel) rfl rfl rfl h2
theorem b_LL_lawz_570 {C : CF} {d : Nat} {σ : HP} {s0 : Int32} {a2 : Nat} {l0 : Option Value} {l1 : Option Value} {l3 : Option Value} {l4 : Option Value} {l5 : Option Value} {l6 : Option Value} {l7 : Option Value} (h1 : a2 % 64 = 12) : runF C d m_LL_lawz (570, [l0, l1, some (.ref a2), l3, l4, l5, l6, l7], [.int s0], σ) = bk C d m_LL_lawz 573 [l0, l1, some (.ref a2), l3, l4, l5, some (.int s0), l7] [] (C m_Mo_thrown [.ref a2] σ) := by
  refine (r_istore 6 (show decode (zb m_LL_lawz) 570 = .ok (.istore 6, 2) from by decide +kernel) rfl).trans ?_
  refine (r_aloadn 2 (show decode (zb m_LL_lawz) 572 = .ok (.aload_n 2, 1) from by decide +kernel) rfl).trans ?_
  exact r_virt (args := []) (rest := []) (show decode (zb m_LL_lawz) 573 = .ok (.invokevirtual 128, 3) from by decide +kernel) rfl rfl rfl h1
theorem b_LL_lawz_576 {C : CF} {d : Nat} {σ : HP} {s0 : Int32} {x5 : Int32} {l0 : Option Value} {l1 : Option Value} {l2 : Option Value} {l3 : Option Value} {l4 : Option Value} {l6 : Option Value} {l7 : Option Value}  : runF C d m_LL_lawz (576, [l0, l1, l2, l3, l4, some (.int x5), l6, l7], [.int s0], σ) = if s0 = x5 then runF C d m_LL_lawz (583, [l0, l1, l2, l3, l4, some (.int x5), l6, l7], [], σ) else runF C d m_LL_lawz (581, [l0, l1, l2, l3, l4, some (.int x5), l6, l7], [], σ) := by
  refine (r_iload 5 (show decode (zb m_LL_lawz) 576 = .ok (.iload 5, 2) from by decide +kernel) rfl).trans ?_
  exact r_icmp_eq 583 (show decode (zb m_LL_lawz) 578 = .ok (.if_icmp .eq (5), 3) from by decide +kernel) rfl
theorem b_LL_lawz_581 {C : CF} {d : Nat} {σ : HP} {l0 : Option Value} {l1 : Option Value} {l2 : Option Value} {l3 : Option Value} {l4 : Option Value} {l5 : Option Value} {l6 : Option Value} {l7 : Option Value}  : runF C d m_LL_lawz (581, [l0, l1, l2, l3, l4, l5, l6, l7], [], σ) = some (.inl (some (.int (0 : Int32))), σ) := by
  refine (r_iconst (v := (0 : Int32)) (show decode (zb m_LL_lawz) 581 = .ok (.iconst (0), 1) from by decide +kernel) (by decide)).trans ?_
  exact r_bret (show decode (zb m_LL_lawz) 582 = .ok (.ireturn, 1) from by decide +kernel) rfl (by decide)
theorem b_LL_lawz_583 {C : CF} {d : Nat} {σ : HP} {x5 : Int32} {l0 : Option Value} {l1 : Option Value} {l2 : Option Value} {l3 : Option Value} {l4 : Option Value} {l6 : Option Value} {l7 : Option Value}  : runF C d m_LL_lawz (583, [l0, l1, l2, l3, l4, some (.int x5), l6, l7], [], σ) = if ¬ x5 = 0 then runF C d m_LL_lawz (600, [l0, l1, l2, l3, l4, some (.int x5), l6, l7], [], σ) else runF C d m_LL_lawz (588, [l0, l1, l2, l3, l4, some (.int x5), l6, l7], [], σ) := by
  refine (r_iload 5 (show decode (zb m_LL_lawz) 583 = .ok (.iload 5, 2) from by decide +kernel) rfl).trans ?_
  exact r_if_ne 600 (show decode (zb m_LL_lawz) 585 = .ok (.ifCond .ne (15), 3) from by decide +kernel) rfl
theorem b_LL_lawz_588 {C : CF} {d : Nat} {σ : HP} {a3 : Nat} {x6 : Int32} {l0 : Option Value} {l1 : Option Value} {l2 : Option Value} {l4 : Option Value} {l5 : Option Value} {l7 : Option Value} (h1 : aty (a3 % 64) = 2) (h2 : inR (0 : Int32) (alen (a3 % 64)) = true) : runF C d m_LL_lawz (588, [l0, l1, l2, some (.ref a3), l4, l5, some (.int x6), l7], [], σ) = if (lg_cmp (gJ σ a3 (Int32.toNatClampNeg (0 : Int32))) (Int32.toInt64 x6)) = 0 then runF C d m_LL_lawz (600, [l0, l1, l2, some (.ref a3), l4, l5, some (.int x6), l7], [], σ) else runF C d m_LL_lawz (598, [l0, l1, l2, some (.ref a3), l4, l5, some (.int x6), l7], [], σ) := by
  refine (r_aloadn 3 (show decode (zb m_LL_lawz) 588 = .ok (.aload_n 3, 1) from by decide +kernel) rfl).trans ?_
  refine (r_iconst (v := (0 : Int32)) (show decode (zb m_LL_lawz) 589 = .ok (.iconst (0), 1) from by decide +kernel) (by decide)).trans ?_
  refine (r_lald (show decode (zb m_LL_lawz) 590 = .ok (.laload, 1) from by decide +kernel) h1 h2).trans ?_
  refine (r_iload 6 (show decode (zb m_LL_lawz) 591 = .ok (.iload 6, 2) from by decide +kernel) rfl).trans ?_
  refine (r_i2l (show decode (zb m_LL_lawz) 593 = .ok (.i2l, 1) from by decide +kernel)).trans ?_
  refine (r_lcmp (show decode (zb m_LL_lawz) 594 = .ok (.lcmp, 1) from by decide +kernel)).trans ?_
  exact r_if_eq 600 (show decode (zb m_LL_lawz) 595 = .ok (.ifCond .eq (5), 3) from by decide +kernel) rfl
theorem b_LL_lawz_598 {C : CF} {d : Nat} {σ : HP} {l0 : Option Value} {l1 : Option Value} {l2 : Option Value} {l3 : Option Value} {l4 : Option Value} {l5 : Option Value} {l6 : Option Value} {l7 : Option Value}  : runF C d m_LL_lawz (598, [l0, l1, l2, l3, l4, l5, l6, l7], [], σ) = some (.inl (some (.int (0 : Int32))), σ) := by
  refine (r_iconst (v := (0 : Int32)) (show decode (zb m_LL_lawz) 598 = .ok (.iconst (0), 1) from by decide +kernel) (by decide)).trans ?_
  exact r_bret (show decode (zb m_LL_lawz) 599 = .ok (.ireturn, 1) from by decide +kernel) rfl (by decide)
theorem b_LL_lawz_600 {C : CF} {d : Nat} {σ : HP} {l0 : Option Value} {l1 : Option Value} {l2 : Option Value} {l3 : Option Value} {l4 : Option Value} {l5 : Option Value} {l6 : Option Value} {l7 : Option Value}  : runF C d m_LL_lawz (600, [l0, l1, l2, l3, l4, l5, l6, l7], [], σ) = runF C d m_LL_lawz (2580, [l0, l1, l2, l3, l4, l5, l6, l7], [], σ) := by
  exact r_goto 2580 (show decode (zb m_LL_lawz) 600 = .ok (.goto (1980), 3) from by decide +kernel) rfl
theorem b_LL_lawz_603 {C : CF} {d : Nat} {σ : HP} {a1 : Nat} {x4 : Int32} {a3 : Nat} {l2 : Option Value} {l5 : Option Value} {l6 : Option Value} {l7 : Option Value} (h1 : inR (x4 + (1 : Int32)) (hL σ) = true) (h2 : inR (x4 + (2 : Int32)) (hL σ) = true) : runF C d m_LL_lawz (603, [some (.ref 18), some (.ref a1), l2, some (.ref a3), some (.int x4), l5, l6, l7], [], σ) = bkN C d m_LL_lawz 617 [some (.ref 18), some (.ref a1), l2, some (.ref a3), some (.int x4), l5, l6, l7] [] (C m_LL_man [.ref a1, .int (gI σ 18 (Int32.toNatClampNeg (x4 + (1 : Int32)))), .int (gI σ 18 (Int32.toNatClampNeg (x4 + (2 : Int32)))), .ref a3] σ) := by
  refine (r_aloadn 1 (show decode (zb m_LL_lawz) 603 = .ok (.aload_n 1, 1) from by decide +kernel) rfl).trans ?_
  refine (r_aloadn 0 (show decode (zb m_LL_lawz) 604 = .ok (.aload_n 0, 1) from by decide +kernel) rfl).trans ?_
  refine (r_iload 4 (show decode (zb m_LL_lawz) 605 = .ok (.iload 4, 2) from by decide +kernel) rfl).trans ?_
  refine (r_iconst (v := (1 : Int32)) (show decode (zb m_LL_lawz) 607 = .ok (.iconst (1), 1) from by decide +kernel) (by decide)).trans ?_
  refine (r_iadd (show decode (zb m_LL_lawz) 608 = .ok (.iadd, 1) from by decide +kernel)).trans ?_
  refine (r_iald18 (show decode (zb m_LL_lawz) 609 = .ok (.iaload, 1) from by decide +kernel) h1).trans ?_
  refine (r_aloadn 0 (show decode (zb m_LL_lawz) 610 = .ok (.aload_n 0, 1) from by decide +kernel) rfl).trans ?_
  refine (r_iload 4 (show decode (zb m_LL_lawz) 611 = .ok (.iload 4, 2) from by decide +kernel) rfl).trans ?_
  refine (r_iconst (v := (2 : Int32)) (show decode (zb m_LL_lawz) 613 = .ok (.iconst (2), 1) from by decide +kernel) (by decide)).trans ?_
  refine (r_iadd (show decode (zb m_LL_lawz) 614 = .ok (.iadd, 1) from by decide +kernel)).trans ?_
  refine (r_iald18 (show decode (zb m_LL_lawz) 615 = .ok (.iaload, 1) from by decide +kernel) h2).trans ?_
  refine (r_aloadn 3 (show decode (zb m_LL_lawz) 616 = .ok (.aload_n 3, 1) from by decide +kernel) rfl).trans ?_
  exact r_stat (args := [.ref a1, .int (gI σ 18 (Int32.toNatClampNeg (x4 + (1 : Int32)))), .int (gI σ 18 (Int32.toNatClampNeg (x4 + (2 : Int32)))), .ref a3]) (rest := []) (show decode (zb m_LL_lawz) 617 = .ok (.invokestatic 152, 3) from by decide +kernel) rfl (by decide) rfl rfl
theorem b_LL_lawz_620 {C : CF} {d : Nat} {σ : HP} {s0 : Int32} {a2 : Nat} {x4 : Int32} {l1 : Option Value} {l3 : Option Value} {l5 : Option Value} {l6 : Option Value} {l7 : Option Value} (h1 : inR (x4 + (1 : Int32)) (hL σ) = true) (h2 : inR (x4 + (2 : Int32)) (hL σ) = true) (h3 : a2 % 64 = 12) : runF C d m_LL_lawz (620, [some (.ref 18), l1, some (.ref a2), l3, some (.int x4), l5, l6, l7], [.int s0], σ) = bk C d m_LL_lawz 635 [some (.ref 18), l1, some (.ref a2), l3, some (.int x4), some (.int s0), l6, l7] [] (C m_Mo_man [.ref a2, .int (gI σ 18 (Int32.toNatClampNeg (x4 + (1 : Int32)))), .int (gI σ 18 (Int32.toNatClampNeg (x4 + (2 : Int32))))] σ) := by
  refine (r_istore 5 (show decode (zb m_LL_lawz) 620 = .ok (.istore 5, 2) from by decide +kernel) rfl).trans ?_
  refine (r_aloadn 2 (show decode (zb m_LL_lawz) 622 = .ok (.aload_n 2, 1) from by decide +kernel) rfl).trans ?_
  refine (r_aloadn 0 (show decode (zb m_LL_lawz) 623 = .ok (.aload_n 0, 1) from by decide +kernel) rfl).trans ?_
  refine (r_iload 4 (show decode (zb m_LL_lawz) 624 = .ok (.iload 4, 2) from by decide +kernel) rfl).trans ?_
  refine (r_iconst (v := (1 : Int32)) (show decode (zb m_LL_lawz) 626 = .ok (.iconst (1), 1) from by decide +kernel) (by decide)).trans ?_
  refine (r_iadd (show decode (zb m_LL_lawz) 627 = .ok (.iadd, 1) from by decide +kernel)).trans ?_
  refine (r_iald18 (show decode (zb m_LL_lawz) 628 = .ok (.iaload, 1) from by decide +kernel) h1).trans ?_
  refine (r_aloadn 0 (show decode (zb m_LL_lawz) 629 = .ok (.aload_n 0, 1) from by decide +kernel) rfl).trans ?_
  refine (r_iload 4 (show decode (zb m_LL_lawz) 630 = .ok (.iload 4, 2) from by decide +kernel) rfl).trans ?_
  refine (r_iconst (v := (2 : Int32)) (show decode (zb m_LL_lawz) 632 = .ok (.iconst (2), 1) from by decide +kernel) (by decide)).trans ?_
  refine (r_iadd (show decode (zb m_LL_lawz) 633 = .ok (.iadd, 1) from by decide +kernel)).trans ?_
  refine (r_iald18 (show decode (zb m_LL_lawz) 634 = .ok (.iaload, 1) from by decide +kernel) h2).trans ?_
  exact r_virt (args := [.int (gI σ 18 (Int32.toNatClampNeg (x4 + (1 : Int32)))), .int (gI σ 18 (Int32.toNatClampNeg (x4 + (2 : Int32))))]) (rest := []) (show decode (zb m_LL_lawz) 635 = .ok (.invokevirtual 155, 3) from by decide +kernel) rfl rfl rfl h3
theorem b_LL_lawz_638 {C : CF} {d : Nat} {σ : HP} {s0 : Int32} {a2 : Nat} {l0 : Option Value} {l1 : Option Value} {l3 : Option Value} {l4 : Option Value} {l5 : Option Value} {l6 : Option Value} {l7 : Option Value} (h1 : a2 % 64 = 12) : runF C d m_LL_lawz (638, [l0, l1, some (.ref a2), l3, l4, l5, l6, l7], [.int s0], σ) = bk C d m_LL_lawz 641 [l0, l1, some (.ref a2), l3, l4, l5, some (.int s0), l7] [] (C m_Mo_thrown [.ref a2] σ) := by
  refine (r_istore 6 (show decode (zb m_LL_lawz) 638 = .ok (.istore 6, 2) from by decide +kernel) rfl).trans ?_
  refine (r_aloadn 2 (show decode (zb m_LL_lawz) 640 = .ok (.aload_n 2, 1) from by decide +kernel) rfl).trans ?_
  exact r_virt (args := []) (rest := []) (show decode (zb m_LL_lawz) 641 = .ok (.invokevirtual 128, 3) from by decide +kernel) rfl rfl rfl h1
theorem b_LL_lawz_644 {C : CF} {d : Nat} {σ : HP} {s0 : Int32} {x5 : Int32} {l0 : Option Value} {l1 : Option Value} {l2 : Option Value} {l3 : Option Value} {l4 : Option Value} {l6 : Option Value} {l7 : Option Value}  : runF C d m_LL_lawz (644, [l0, l1, l2, l3, l4, some (.int x5), l6, l7], [.int s0], σ) = if s0 = x5 then runF C d m_LL_lawz (651, [l0, l1, l2, l3, l4, some (.int x5), l6, l7], [], σ) else runF C d m_LL_lawz (649, [l0, l1, l2, l3, l4, some (.int x5), l6, l7], [], σ) := by
  refine (r_iload 5 (show decode (zb m_LL_lawz) 644 = .ok (.iload 5, 2) from by decide +kernel) rfl).trans ?_
  exact r_icmp_eq 651 (show decode (zb m_LL_lawz) 646 = .ok (.if_icmp .eq (5), 3) from by decide +kernel) rfl
theorem b_LL_lawz_649 {C : CF} {d : Nat} {σ : HP} {l0 : Option Value} {l1 : Option Value} {l2 : Option Value} {l3 : Option Value} {l4 : Option Value} {l5 : Option Value} {l6 : Option Value} {l7 : Option Value}  : runF C d m_LL_lawz (649, [l0, l1, l2, l3, l4, l5, l6, l7], [], σ) = some (.inl (some (.int (0 : Int32))), σ) := by
  refine (r_iconst (v := (0 : Int32)) (show decode (zb m_LL_lawz) 649 = .ok (.iconst (0), 1) from by decide +kernel) (by decide)).trans ?_
  exact r_bret (show decode (zb m_LL_lawz) 650 = .ok (.ireturn, 1) from by decide +kernel) rfl (by decide)
theorem b_LL_lawz_651 {C : CF} {d : Nat} {σ : HP} {x5 : Int32} {l0 : Option Value} {l1 : Option Value} {l2 : Option Value} {l3 : Option Value} {l4 : Option Value} {l6 : Option Value} {l7 : Option Value}  : runF C d m_LL_lawz (651, [l0, l1, l2, l3, l4, some (.int x5), l6, l7], [], σ) = if ¬ x5 = 0 then runF C d m_LL_lawz (668, [l0, l1, l2, l3, l4, some (.int x5), l6, l7], [], σ) else runF C d m_LL_lawz (656, [l0, l1, l2, l3, l4, some (.int x5), l6, l7], [], σ) := by
  refine (r_iload 5 (show decode (zb m_LL_lawz) 651 = .ok (.iload 5, 2) from by decide +kernel) rfl).trans ?_
  exact r_if_ne 668 (show decode (zb m_LL_lawz) 653 = .ok (.ifCond .ne (15), 3) from by decide +kernel) rfl
theorem b_LL_lawz_656 {C : CF} {d : Nat} {σ : HP} {a3 : Nat} {x6 : Int32} {l0 : Option Value} {l1 : Option Value} {l2 : Option Value} {l4 : Option Value} {l5 : Option Value} {l7 : Option Value} (h1 : aty (a3 % 64) = 2) (h2 : inR (0 : Int32) (alen (a3 % 64)) = true) : runF C d m_LL_lawz (656, [l0, l1, l2, some (.ref a3), l4, l5, some (.int x6), l7], [], σ) = if (lg_cmp (gJ σ a3 (Int32.toNatClampNeg (0 : Int32))) (Int32.toInt64 x6)) = 0 then runF C d m_LL_lawz (668, [l0, l1, l2, some (.ref a3), l4, l5, some (.int x6), l7], [], σ) else runF C d m_LL_lawz (666, [l0, l1, l2, some (.ref a3), l4, l5, some (.int x6), l7], [], σ) := by
  refine (r_aloadn 3 (show decode (zb m_LL_lawz) 656 = .ok (.aload_n 3, 1) from by decide +kernel) rfl).trans ?_
  refine (r_iconst (v := (0 : Int32)) (show decode (zb m_LL_lawz) 657 = .ok (.iconst (0), 1) from by decide +kernel) (by decide)).trans ?_
  refine (r_lald (show decode (zb m_LL_lawz) 658 = .ok (.laload, 1) from by decide +kernel) h1 h2).trans ?_
  refine (r_iload 6 (show decode (zb m_LL_lawz) 659 = .ok (.iload 6, 2) from by decide +kernel) rfl).trans ?_
  refine (r_i2l (show decode (zb m_LL_lawz) 661 = .ok (.i2l, 1) from by decide +kernel)).trans ?_
  refine (r_lcmp (show decode (zb m_LL_lawz) 662 = .ok (.lcmp, 1) from by decide +kernel)).trans ?_
  exact r_if_eq 668 (show decode (zb m_LL_lawz) 663 = .ok (.ifCond .eq (5), 3) from by decide +kernel) rfl
theorem b_LL_lawz_666 {C : CF} {d : Nat} {σ : HP} {l0 : Option Value} {l1 : Option Value} {l2 : Option Value} {l3 : Option Value} {l4 : Option Value} {l5 : Option Value} {l6 : Option Value} {l7 : Option Value}  : runF C d m_LL_lawz (666, [l0, l1, l2, l3, l4, l5, l6, l7], [], σ) = some (.inl (some (.int (0 : Int32))), σ) := by
  refine (r_iconst (v := (0 : Int32)) (show decode (zb m_LL_lawz) 666 = .ok (.iconst (0), 1) from by decide +kernel) (by decide)).trans ?_
  exact r_bret (show decode (zb m_LL_lawz) 667 = .ok (.ireturn, 1) from by decide +kernel) rfl (by decide)
theorem b_LL_lawz_668 {C : CF} {d : Nat} {σ : HP} {l0 : Option Value} {l1 : Option Value} {l2 : Option Value} {l3 : Option Value} {l4 : Option Value} {l5 : Option Value} {l6 : Option Value} {l7 : Option Value}  : runF C d m_LL_lawz (668, [l0, l1, l2, l3, l4, l5, l6, l7], [], σ) = runF C d m_LL_lawz (2580, [l0, l1, l2, l3, l4, l5, l6, l7], [], σ) := by
  exact r_goto 2580 (show decode (zb m_LL_lawz) 668 = .ok (.goto (1912), 3) from by decide +kernel) rfl
theorem b_LL_lawz_671 {C : CF} {d : Nat} {σ : HP} {a1 : Nat} {x4 : Int32} {a3 : Nat} {l2 : Option Value} {l5 : Option Value} {l6 : Option Value} {l7 : Option Value} (h1 : inR (x4 + (1 : Int32)) (hL σ) = true) (h2 : inR (x4 + (2 : Int32)) (hL σ) = true) : runF C d m_LL_lawz (671, [some (.ref 18), some (.ref a1), l2, some (.ref a3), some (.int x4), l5, l6, l7], [], σ) = bkN C d m_LL_lawz 685 [some (.ref 18), some (.ref a1), l2, some (.ref a3), some (.int x4), l5, l6, l7] [] (C m_LL_card [.ref a1, .int (gI σ 18 (Int32.toNatClampNeg (x4 + (1 : Int32)))), .int (gI σ 18 (Int32.toNatClampNeg (x4 + (2 : Int32)))), .ref a3] σ) := by
  refine (r_aloadn 1 (show decode (zb m_LL_lawz) 671 = .ok (.aload_n 1, 1) from by decide +kernel) rfl).trans ?_
  refine (r_aloadn 0 (show decode (zb m_LL_lawz) 672 = .ok (.aload_n 0, 1) from by decide +kernel) rfl).trans ?_
  refine (r_iload 4 (show decode (zb m_LL_lawz) 673 = .ok (.iload 4, 2) from by decide +kernel) rfl).trans ?_
  refine (r_iconst (v := (1 : Int32)) (show decode (zb m_LL_lawz) 675 = .ok (.iconst (1), 1) from by decide +kernel) (by decide)).trans ?_
  refine (r_iadd (show decode (zb m_LL_lawz) 676 = .ok (.iadd, 1) from by decide +kernel)).trans ?_
  refine (r_iald18 (show decode (zb m_LL_lawz) 677 = .ok (.iaload, 1) from by decide +kernel) h1).trans ?_
  refine (r_aloadn 0 (show decode (zb m_LL_lawz) 678 = .ok (.aload_n 0, 1) from by decide +kernel) rfl).trans ?_
  refine (r_iload 4 (show decode (zb m_LL_lawz) 679 = .ok (.iload 4, 2) from by decide +kernel) rfl).trans ?_
  refine (r_iconst (v := (2 : Int32)) (show decode (zb m_LL_lawz) 681 = .ok (.iconst (2), 1) from by decide +kernel) (by decide)).trans ?_
  refine (r_iadd (show decode (zb m_LL_lawz) 682 = .ok (.iadd, 1) from by decide +kernel)).trans ?_
  refine (r_iald18 (show decode (zb m_LL_lawz) 683 = .ok (.iaload, 1) from by decide +kernel) h2).trans ?_
  refine (r_aloadn 3 (show decode (zb m_LL_lawz) 684 = .ok (.aload_n 3, 1) from by decide +kernel) rfl).trans ?_
  exact r_stat (args := [.ref a1, .int (gI σ 18 (Int32.toNatClampNeg (x4 + (1 : Int32)))), .int (gI σ 18 (Int32.toNatClampNeg (x4 + (2 : Int32)))), .ref a3]) (rest := []) (show decode (zb m_LL_lawz) 685 = .ok (.invokestatic 156, 3) from by decide +kernel) rfl (by decide) rfl rfl
theorem b_LL_lawz_688 {C : CF} {d : Nat} {σ : HP} {s0 : Int32} {a2 : Nat} {x4 : Int32} {l1 : Option Value} {l3 : Option Value} {l5 : Option Value} {l6 : Option Value} {l7 : Option Value} (h1 : inR (x4 + (1 : Int32)) (hL σ) = true) (h2 : inR (x4 + (2 : Int32)) (hL σ) = true) (h3 : a2 % 64 = 12) : runF C d m_LL_lawz (688, [some (.ref 18), l1, some (.ref a2), l3, some (.int x4), l5, l6, l7], [.int s0], σ) = bk C d m_LL_lawz 703 [some (.ref 18), l1, some (.ref a2), l3, some (.int x4), some (.int s0), l6, l7] [] (C m_Mo_card [.ref a2, .int (gI σ 18 (Int32.toNatClampNeg (x4 + (1 : Int32)))), .int (gI σ 18 (Int32.toNatClampNeg (x4 + (2 : Int32))))] σ) := by
  refine (r_istore 5 (show decode (zb m_LL_lawz) 688 = .ok (.istore 5, 2) from by decide +kernel) rfl).trans ?_
  refine (r_aloadn 2 (show decode (zb m_LL_lawz) 690 = .ok (.aload_n 2, 1) from by decide +kernel) rfl).trans ?_
  refine (r_aloadn 0 (show decode (zb m_LL_lawz) 691 = .ok (.aload_n 0, 1) from by decide +kernel) rfl).trans ?_
  refine (r_iload 4 (show decode (zb m_LL_lawz) 692 = .ok (.iload 4, 2) from by decide +kernel) rfl).trans ?_
  refine (r_iconst (v := (1 : Int32)) (show decode (zb m_LL_lawz) 694 = .ok (.iconst (1), 1) from by decide +kernel) (by decide)).trans ?_
  refine (r_iadd (show decode (zb m_LL_lawz) 695 = .ok (.iadd, 1) from by decide +kernel)).trans ?_
  refine (r_iald18 (show decode (zb m_LL_lawz) 696 = .ok (.iaload, 1) from by decide +kernel) h1).trans ?_
  refine (r_aloadn 0 (show decode (zb m_LL_lawz) 697 = .ok (.aload_n 0, 1) from by decide +kernel) rfl).trans ?_
  refine (r_iload 4 (show decode (zb m_LL_lawz) 698 = .ok (.iload 4, 2) from by decide +kernel) rfl).trans ?_
  refine (r_iconst (v := (2 : Int32)) (show decode (zb m_LL_lawz) 700 = .ok (.iconst (2), 1) from by decide +kernel) (by decide)).trans ?_
  refine (r_iadd (show decode (zb m_LL_lawz) 701 = .ok (.iadd, 1) from by decide +kernel)).trans ?_
  refine (r_iald18 (show decode (zb m_LL_lawz) 702 = .ok (.iaload, 1) from by decide +kernel) h2).trans ?_
  exact r_virt (args := [.int (gI σ 18 (Int32.toNatClampNeg (x4 + (1 : Int32)))), .int (gI σ 18 (Int32.toNatClampNeg (x4 + (2 : Int32))))]) (rest := []) (show decode (zb m_LL_lawz) 703 = .ok (.invokevirtual 158, 3) from by decide +kernel) rfl rfl rfl h3
theorem b_LL_lawz_706 {C : CF} {d : Nat} {σ : HP} {s0 : Int32} {a2 : Nat} {l0 : Option Value} {l1 : Option Value} {l3 : Option Value} {l4 : Option Value} {l5 : Option Value} {l6 : Option Value} {l7 : Option Value} (h1 : a2 % 64 = 12) : runF C d m_LL_lawz (706, [l0, l1, some (.ref a2), l3, l4, l5, l6, l7], [.int s0], σ) = bk C d m_LL_lawz 709 [l0, l1, some (.ref a2), l3, l4, l5, some (.int s0), l7] [] (C m_Mo_thrown [.ref a2] σ) := by
  refine (r_istore 6 (show decode (zb m_LL_lawz) 706 = .ok (.istore 6, 2) from by decide +kernel) rfl).trans ?_
  refine (r_aloadn 2 (show decode (zb m_LL_lawz) 708 = .ok (.aload_n 2, 1) from by decide +kernel) rfl).trans ?_
  exact r_virt (args := []) (rest := []) (show decode (zb m_LL_lawz) 709 = .ok (.invokevirtual 128, 3) from by decide +kernel) rfl rfl rfl h1
theorem b_LL_lawz_712 {C : CF} {d : Nat} {σ : HP} {s0 : Int32} {x5 : Int32} {l0 : Option Value} {l1 : Option Value} {l2 : Option Value} {l3 : Option Value} {l4 : Option Value} {l6 : Option Value} {l7 : Option Value}  : runF C d m_LL_lawz (712, [l0, l1, l2, l3, l4, some (.int x5), l6, l7], [.int s0], σ) = if s0 = x5 then runF C d m_LL_lawz (719, [l0, l1, l2, l3, l4, some (.int x5), l6, l7], [], σ) else runF C d m_LL_lawz (717, [l0, l1, l2, l3, l4, some (.int x5), l6, l7], [], σ) := by
  refine (r_iload 5 (show decode (zb m_LL_lawz) 712 = .ok (.iload 5, 2) from by decide +kernel) rfl).trans ?_
  exact r_icmp_eq 719 (show decode (zb m_LL_lawz) 714 = .ok (.if_icmp .eq (5), 3) from by decide +kernel) rfl
theorem b_LL_lawz_717 {C : CF} {d : Nat} {σ : HP} {l0 : Option Value} {l1 : Option Value} {l2 : Option Value} {l3 : Option Value} {l4 : Option Value} {l5 : Option Value} {l6 : Option Value} {l7 : Option Value}  : runF C d m_LL_lawz (717, [l0, l1, l2, l3, l4, l5, l6, l7], [], σ) = some (.inl (some (.int (0 : Int32))), σ) := by
  refine (r_iconst (v := (0 : Int32)) (show decode (zb m_LL_lawz) 717 = .ok (.iconst (0), 1) from by decide +kernel) (by decide)).trans ?_
  exact r_bret (show decode (zb m_LL_lawz) 718 = .ok (.ireturn, 1) from by decide +kernel) rfl (by decide)
theorem b_LL_lawz_719 {C : CF} {d : Nat} {σ : HP} {x5 : Int32} {l0 : Option Value} {l1 : Option Value} {l2 : Option Value} {l3 : Option Value} {l4 : Option Value} {l6 : Option Value} {l7 : Option Value}  : runF C d m_LL_lawz (719, [l0, l1, l2, l3, l4, some (.int x5), l6, l7], [], σ) = if ¬ x5 = 0 then runF C d m_LL_lawz (736, [l0, l1, l2, l3, l4, some (.int x5), l6, l7], [], σ) else runF C d m_LL_lawz (724, [l0, l1, l2, l3, l4, some (.int x5), l6, l7], [], σ) := by
  refine (r_iload 5 (show decode (zb m_LL_lawz) 719 = .ok (.iload 5, 2) from by decide +kernel) rfl).trans ?_
  exact r_if_ne 736 (show decode (zb m_LL_lawz) 721 = .ok (.ifCond .ne (15), 3) from by decide +kernel) rfl
theorem b_LL_lawz_724 {C : CF} {d : Nat} {σ : HP} {a3 : Nat} {x6 : Int32} {l0 : Option Value} {l1 : Option Value} {l2 : Option Value} {l4 : Option Value} {l5 : Option Value} {l7 : Option Value} (h1 : aty (a3 % 64) = 2) (h2 : inR (0 : Int32) (alen (a3 % 64)) = true) : runF C d m_LL_lawz (724, [l0, l1, l2, some (.ref a3), l4, l5, some (.int x6), l7], [], σ) = if (lg_cmp (gJ σ a3 (Int32.toNatClampNeg (0 : Int32))) (Int32.toInt64 x6)) = 0 then runF C d m_LL_lawz (736, [l0, l1, l2, some (.ref a3), l4, l5, some (.int x6), l7], [], σ) else runF C d m_LL_lawz (734, [l0, l1, l2, some (.ref a3), l4, l5, some (.int x6), l7], [], σ) := by
  refine (r_aloadn 3 (show decode (zb m_LL_lawz) 724 = .ok (.aload_n 3, 1) from by decide +kernel) rfl).trans ?_
  refine (r_iconst (v := (0 : Int32)) (show decode (zb m_LL_lawz) 725 = .ok (.iconst (0), 1) from by decide +kernel) (by decide)).trans ?_
  refine (r_lald (show decode (zb m_LL_lawz) 726 = .ok (.laload, 1) from by decide +kernel) h1 h2).trans ?_
  refine (r_iload 6 (show decode (zb m_LL_lawz) 727 = .ok (.iload 6, 2) from by decide +kernel) rfl).trans ?_
  refine (r_i2l (show decode (zb m_LL_lawz) 729 = .ok (.i2l, 1) from by decide +kernel)).trans ?_
  refine (r_lcmp (show decode (zb m_LL_lawz) 730 = .ok (.lcmp, 1) from by decide +kernel)).trans ?_
  exact r_if_eq 736 (show decode (zb m_LL_lawz) 731 = .ok (.ifCond .eq (5), 3) from by decide +kernel) rfl
theorem b_LL_lawz_734 {C : CF} {d : Nat} {σ : HP} {l0 : Option Value} {l1 : Option Value} {l2 : Option Value} {l3 : Option Value} {l4 : Option Value} {l5 : Option Value} {l6 : Option Value} {l7 : Option Value}  : runF C d m_LL_lawz (734, [l0, l1, l2, l3, l4, l5, l6, l7], [], σ) = some (.inl (some (.int (0 : Int32))), σ) := by
  refine (r_iconst (v := (0 : Int32)) (show decode (zb m_LL_lawz) 734 = .ok (.iconst (0), 1) from by decide +kernel) (by decide)).trans ?_
  exact r_bret (show decode (zb m_LL_lawz) 735 = .ok (.ireturn, 1) from by decide +kernel) rfl (by decide)
theorem b_LL_lawz_736 {C : CF} {d : Nat} {σ : HP} {l0 : Option Value} {l1 : Option Value} {l2 : Option Value} {l3 : Option Value} {l4 : Option Value} {l5 : Option Value} {l6 : Option Value} {l7 : Option Value}  : runF C d m_LL_lawz (736, [l0, l1, l2, l3, l4, l5, l6, l7], [], σ) = runF C d m_LL_lawz (2580, [l0, l1, l2, l3, l4, l5, l6, l7], [], σ) := by
  exact r_goto 2580 (show decode (zb m_LL_lawz) 736 = .ok (.goto (1844), 3) from by decide +kernel) rfl
theorem b_LL_lawz_739 {C : CF} {d : Nat} {σ : HP} {a1 : Nat} {x4 : Int32} {a3 : Nat} {l2 : Option Value} {l5 : Option Value} {l6 : Option Value} {l7 : Option Value} (h1 : inR (x4 + (1 : Int32)) (hL σ) = true) (h2 : inR (x4 + (2 : Int32)) (hL σ) = true) : runF C d m_LL_lawz (739, [some (.ref 18), some (.ref a1), l2, some (.ref a3), some (.int x4), l5, l6, l7], [], σ) = bkN C d m_LL_lawz 753 [some (.ref 18), some (.ref a1), l2, some (.ref a3), some (.int x4), l5, l6, l7] [] (C m_LL_heard [.ref a1, .int (gI σ 18 (Int32.toNatClampNeg (x4 + (1 : Int32)))), .int (gI σ 18 (Int32.toNatClampNeg (x4 + (2 : Int32)))), .ref a3] σ) := by
  refine (r_aloadn 1 (show decode (zb m_LL_lawz) 739 = .ok (.aload_n 1, 1) from by decide +kernel) rfl).trans ?_
  refine (r_aloadn 0 (show decode (zb m_LL_lawz) 740 = .ok (.aload_n 0, 1) from by decide +kernel) rfl).trans ?_
  refine (r_iload 4 (show decode (zb m_LL_lawz) 741 = .ok (.iload 4, 2) from by decide +kernel) rfl).trans ?_
  refine (r_iconst (v := (1 : Int32)) (show decode (zb m_LL_lawz) 743 = .ok (.iconst (1), 1) from by decide +kernel) (by decide)).trans ?_
  refine (r_iadd (show decode (zb m_LL_lawz) 744 = .ok (.iadd, 1) from by decide +kernel)).trans ?_
  refine (r_iald18 (show decode (zb m_LL_lawz) 745 = .ok (.iaload, 1) from by decide +kernel) h1).trans ?_
  refine (r_aloadn 0 (show decode (zb m_LL_lawz) 746 = .ok (.aload_n 0, 1) from by decide +kernel) rfl).trans ?_
  refine (r_iload 4 (show decode (zb m_LL_lawz) 747 = .ok (.iload 4, 2) from by decide +kernel) rfl).trans ?_
  refine (r_iconst (v := (2 : Int32)) (show decode (zb m_LL_lawz) 749 = .ok (.iconst (2), 1) from by decide +kernel) (by decide)).trans ?_
  refine (r_iadd (show decode (zb m_LL_lawz) 750 = .ok (.iadd, 1) from by decide +kernel)).trans ?_
  refine (r_iald18 (show decode (zb m_LL_lawz) 751 = .ok (.iaload, 1) from by decide +kernel) h2).trans ?_
  refine (r_aloadn 3 (show decode (zb m_LL_lawz) 752 = .ok (.aload_n 3, 1) from by decide +kernel) rfl).trans ?_
  exact r_stat (args := [.ref a1, .int (gI σ 18 (Int32.toNatClampNeg (x4 + (1 : Int32)))), .int (gI σ 18 (Int32.toNatClampNeg (x4 + (2 : Int32)))), .ref a3]) (rest := []) (show decode (zb m_LL_lawz) 753 = .ok (.invokestatic 159, 3) from by decide +kernel) rfl (by decide) rfl rfl
theorem b_LL_lawz_756 {C : CF} {d : Nat} {σ : HP} {s0 : Int32} {a2 : Nat} {x4 : Int32} {l1 : Option Value} {l3 : Option Value} {l5 : Option Value} {l6 : Option Value} {l7 : Option Value} (h1 : inR (x4 + (1 : Int32)) (hL σ) = true) (h2 : inR (x4 + (2 : Int32)) (hL σ) = true) (h3 : a2 % 64 = 12) : runF C d m_LL_lawz (756, [some (.ref 18), l1, some (.ref a2), l3, some (.int x4), l5, l6, l7], [.int s0], σ) = bk C d m_LL_lawz 771 [some (.ref 18), l1, some (.ref a2), l3, some (.int x4), some (.int s0), l6, l7] [] (C m_Mo_heard [.ref a2, .int (gI σ 18 (Int32.toNatClampNeg (x4 + (1 : Int32)))), .int (gI σ 18 (Int32.toNatClampNeg (x4 + (2 : Int32))))] σ) := by
  refine (r_istore 5 (show decode (zb m_LL_lawz) 756 = .ok (.istore 5, 2) from by decide +kernel) rfl).trans ?_
  refine (r_aloadn 2 (show decode (zb m_LL_lawz) 758 = .ok (.aload_n 2, 1) from by decide +kernel) rfl).trans ?_
  refine (r_aloadn 0 (show decode (zb m_LL_lawz) 759 = .ok (.aload_n 0, 1) from by decide +kernel) rfl).trans ?_
  refine (r_iload 4 (show decode (zb m_LL_lawz) 760 = .ok (.iload 4, 2) from by decide +kernel) rfl).trans ?_
  refine (r_iconst (v := (1 : Int32)) (show decode (zb m_LL_lawz) 762 = .ok (.iconst (1), 1) from by decide +kernel) (by decide)).trans ?_
  refine (r_iadd (show decode (zb m_LL_lawz) 763 = .ok (.iadd, 1) from by decide +kernel)).trans ?_
  refine (r_iald18 (show decode (zb m_LL_lawz) 764 = .ok (.iaload, 1) from by decide +kernel) h1).trans ?_
  refine (r_aloadn 0 (show decode (zb m_LL_lawz) 765 = .ok (.aload_n 0, 1) from by decide +kernel) rfl).trans ?_
  refine (r_iload 4 (show decode (zb m_LL_lawz) 766 = .ok (.iload 4, 2) from by decide +kernel) rfl).trans ?_
  refine (r_iconst (v := (2 : Int32)) (show decode (zb m_LL_lawz) 768 = .ok (.iconst (2), 1) from by decide +kernel) (by decide)).trans ?_
  refine (r_iadd (show decode (zb m_LL_lawz) 769 = .ok (.iadd, 1) from by decide +kernel)).trans ?_
  refine (r_iald18 (show decode (zb m_LL_lawz) 770 = .ok (.iaload, 1) from by decide +kernel) h2).trans ?_
  exact r_virt (args := [.int (gI σ 18 (Int32.toNatClampNeg (x4 + (1 : Int32)))), .int (gI σ 18 (Int32.toNatClampNeg (x4 + (2 : Int32))))]) (rest := []) (show decode (zb m_LL_lawz) 771 = .ok (.invokevirtual 161, 3) from by decide +kernel) rfl rfl rfl h3
theorem b_LL_lawz_774 {C : CF} {d : Nat} {σ : HP} {s0 : Int32} {a2 : Nat} {l0 : Option Value} {l1 : Option Value} {l3 : Option Value} {l4 : Option Value} {l5 : Option Value} {l6 : Option Value} {l7 : Option Value} (h1 : a2 % 64 = 12) : runF C d m_LL_lawz (774, [l0, l1, some (.ref a2), l3, l4, l5, l6, l7], [.int s0], σ) = bk C d m_LL_lawz 777 [l0, l1, some (.ref a2), l3, l4, l5, some (.int s0), l7] [] (C m_Mo_thrown [.ref a2] σ) := by
  refine (r_istore 6 (show decode (zb m_LL_lawz) 774 = .ok (.istore 6, 2) from by decide +kernel) rfl).trans ?_
  refine (r_aloadn 2 (show decode (zb m_LL_lawz) 776 = .ok (.aload_n 2, 1) from by decide +kernel) rfl).trans ?_
  exact r_virt (args := []) (rest := []) (show decode (zb m_LL_lawz) 777 = .ok (.invokevirtual 128, 3) from by decide +kernel) rfl rfl rfl h1
theorem b_LL_lawz_780 {C : CF} {d : Nat} {σ : HP} {s0 : Int32} {x5 : Int32} {l0 : Option Value} {l1 : Option Value} {l2 : Option Value} {l3 : Option Value} {l4 : Option Value} {l6 : Option Value} {l7 : Option Value}  : runF C d m_LL_lawz (780, [l0, l1, l2, l3, l4, some (.int x5), l6, l7], [.int s0], σ) = if s0 = x5 then runF C d m_LL_lawz (787, [l0, l1, l2, l3, l4, some (.int x5), l6, l7], [], σ) else runF C d m_LL_lawz (785, [l0, l1, l2, l3, l4, some (.int x5), l6, l7], [], σ) := by
  refine (r_iload 5 (show decode (zb m_LL_lawz) 780 = .ok (.iload 5, 2) from by decide +kernel) rfl).trans ?_
  exact r_icmp_eq 787 (show decode (zb m_LL_lawz) 782 = .ok (.if_icmp .eq (5), 3) from by decide +kernel) rfl
theorem b_LL_lawz_785 {C : CF} {d : Nat} {σ : HP} {l0 : Option Value} {l1 : Option Value} {l2 : Option Value} {l3 : Option Value} {l4 : Option Value} {l5 : Option Value} {l6 : Option Value} {l7 : Option Value}  : runF C d m_LL_lawz (785, [l0, l1, l2, l3, l4, l5, l6, l7], [], σ) = some (.inl (some (.int (0 : Int32))), σ) := by
  refine (r_iconst (v := (0 : Int32)) (show decode (zb m_LL_lawz) 785 = .ok (.iconst (0), 1) from by decide +kernel) (by decide)).trans ?_
  exact r_bret (show decode (zb m_LL_lawz) 786 = .ok (.ireturn, 1) from by decide +kernel) rfl (by decide)
theorem b_LL_lawz_787 {C : CF} {d : Nat} {σ : HP} {x5 : Int32} {l0 : Option Value} {l1 : Option Value} {l2 : Option Value} {l3 : Option Value} {l4 : Option Value} {l6 : Option Value} {l7 : Option Value}  : runF C d m_LL_lawz (787, [l0, l1, l2, l3, l4, some (.int x5), l6, l7], [], σ) = if ¬ x5 = 0 then runF C d m_LL_lawz (804, [l0, l1, l2, l3, l4, some (.int x5), l6, l7], [], σ) else runF C d m_LL_lawz (792, [l0, l1, l2, l3, l4, some (.int x5), l6, l7], [], σ) := by
  refine (r_iload 5 (show decode (zb m_LL_lawz) 787 = .ok (.iload 5, 2) from by decide +kernel) rfl).trans ?_
  exact r_if_ne 804 (show decode (zb m_LL_lawz) 789 = .ok (.ifCond .ne (15), 3) from by decide +kernel) rfl
theorem b_LL_lawz_792 {C : CF} {d : Nat} {σ : HP} {a3 : Nat} {x6 : Int32} {l0 : Option Value} {l1 : Option Value} {l2 : Option Value} {l4 : Option Value} {l5 : Option Value} {l7 : Option Value} (h1 : aty (a3 % 64) = 2) (h2 : inR (0 : Int32) (alen (a3 % 64)) = true) : runF C d m_LL_lawz (792, [l0, l1, l2, some (.ref a3), l4, l5, some (.int x6), l7], [], σ) = if (lg_cmp (gJ σ a3 (Int32.toNatClampNeg (0 : Int32))) (Int32.toInt64 x6)) = 0 then runF C d m_LL_lawz (804, [l0, l1, l2, some (.ref a3), l4, l5, some (.int x6), l7], [], σ) else runF C d m_LL_lawz (802, [l0, l1, l2, some (.ref a3), l4, l5, some (.int x6), l7], [], σ) := by
  refine (r_aloadn 3 (show decode (zb m_LL_lawz) 792 = .ok (.aload_n 3, 1) from by decide +kernel) rfl).trans ?_
  refine (r_iconst (v := (0 : Int32)) (show decode (zb m_LL_lawz) 793 = .ok (.iconst (0), 1) from by decide +kernel) (by decide)).trans ?_
  refine (r_lald (show decode (zb m_LL_lawz) 794 = .ok (.laload, 1) from by decide +kernel) h1 h2).trans ?_
  refine (r_iload 6 (show decode (zb m_LL_lawz) 795 = .ok (.iload 6, 2) from by decide +kernel) rfl).trans ?_
  refine (r_i2l (show decode (zb m_LL_lawz) 797 = .ok (.i2l, 1) from by decide +kernel)).trans ?_
  refine (r_lcmp (show decode (zb m_LL_lawz) 798 = .ok (.lcmp, 1) from by decide +kernel)).trans ?_
  exact r_if_eq 804 (show decode (zb m_LL_lawz) 799 = .ok (.ifCond .eq (5), 3) from by decide +kernel) rfl
theorem b_LL_lawz_802 {C : CF} {d : Nat} {σ : HP} {l0 : Option Value} {l1 : Option Value} {l2 : Option Value} {l3 : Option Value} {l4 : Option Value} {l5 : Option Value} {l6 : Option Value} {l7 : Option Value}  : runF C d m_LL_lawz (802, [l0, l1, l2, l3, l4, l5, l6, l7], [], σ) = some (.inl (some (.int (0 : Int32))), σ) := by
  refine (r_iconst (v := (0 : Int32)) (show decode (zb m_LL_lawz) 802 = .ok (.iconst (0), 1) from by decide +kernel) (by decide)).trans ?_
  exact r_bret (show decode (zb m_LL_lawz) 803 = .ok (.ireturn, 1) from by decide +kernel) rfl (by decide)
theorem b_LL_lawz_804 {C : CF} {d : Nat} {σ : HP} {l0 : Option Value} {l1 : Option Value} {l2 : Option Value} {l3 : Option Value} {l4 : Option Value} {l5 : Option Value} {l6 : Option Value} {l7 : Option Value}  : runF C d m_LL_lawz (804, [l0, l1, l2, l3, l4, l5, l6, l7], [], σ) = runF C d m_LL_lawz (2580, [l0, l1, l2, l3, l4, l5, l6, l7], [], σ) := by
  exact r_goto 2580 (show decode (zb m_LL_lawz) 804 = .ok (.goto (1776), 3) from by decide +kernel) rfl
theorem b_LL_lawz_807 {C : CF} {d : Nat} {σ : HP} {a1 : Nat} {x4 : Int32} {a3 : Nat} {l2 : Option Value} {l5 : Option Value} {l6 : Option Value} {l7 : Option Value} (h1 : inR (x4 + (1 : Int32)) (hL σ) = true) (h2 : inR (x4 + (2 : Int32)) (hL σ) = true) : runF C d m_LL_lawz (807, [some (.ref 18), some (.ref a1), l2, some (.ref a3), some (.int x4), l5, l6, l7], [], σ) = bkN C d m_LL_lawz 821 [some (.ref 18), some (.ref a1), l2, some (.ref a3), some (.int x4), l5, l6, l7] [] (C m_LL_swells [.ref a1, .int (gI σ 18 (Int32.toNatClampNeg (x4 + (1 : Int32)))), .int (gI σ 18 (Int32.toNatClampNeg (x4 + (2 : Int32)))), .ref a3] σ) := by
  refine (r_aloadn 1 (show decode (zb m_LL_lawz) 807 = .ok (.aload_n 1, 1) from by decide +kernel) rfl).trans ?_
  refine (r_aloadn 0 (show decode (zb m_LL_lawz) 808 = .ok (.aload_n 0, 1) from by decide +kernel) rfl).trans ?_
  refine (r_iload 4 (show decode (zb m_LL_lawz) 809 = .ok (.iload 4, 2) from by decide +kernel) rfl).trans ?_
  refine (r_iconst (v := (1 : Int32)) (show decode (zb m_LL_lawz) 811 = .ok (.iconst (1), 1) from by decide +kernel) (by decide)).trans ?_
  refine (r_iadd (show decode (zb m_LL_lawz) 812 = .ok (.iadd, 1) from by decide +kernel)).trans ?_
  refine (r_iald18 (show decode (zb m_LL_lawz) 813 = .ok (.iaload, 1) from by decide +kernel) h1).trans ?_
  refine (r_aloadn 0 (show decode (zb m_LL_lawz) 814 = .ok (.aload_n 0, 1) from by decide +kernel) rfl).trans ?_
  refine (r_iload 4 (show decode (zb m_LL_lawz) 815 = .ok (.iload 4, 2) from by decide +kernel) rfl).trans ?_
  refine (r_iconst (v := (2 : Int32)) (show decode (zb m_LL_lawz) 817 = .ok (.iconst (2), 1) from by decide +kernel) (by decide)).trans ?_
  refine (r_iadd (show decode (zb m_LL_lawz) 818 = .ok (.iadd, 1) from by decide +kernel)).trans ?_
  refine (r_iald18 (show decode (zb m_LL_lawz) 819 = .ok (.iaload, 1) from by decide +kernel) h2).trans ?_
  refine (r_aloadn 3 (show decode (zb m_LL_lawz) 820 = .ok (.aload_n 3, 1) from by decide +kernel) rfl).trans ?_
  exact r_stat (args := [.ref a1, .int (gI σ 18 (Int32.toNatClampNeg (x4 + (1 : Int32)))), .int (gI σ 18 (Int32.toNatClampNeg (x4 + (2 : Int32)))), .ref a3]) (rest := []) (show decode (zb m_LL_lawz) 821 = .ok (.invokestatic 162, 3) from by decide +kernel) rfl (by decide) rfl rfl
theorem b_LL_lawz_824 {C : CF} {d : Nat} {σ : HP} {s0 : Int32} {a2 : Nat} {x4 : Int32} {l1 : Option Value} {l3 : Option Value} {l5 : Option Value} {l6 : Option Value} {l7 : Option Value} (h1 : inR (x4 + (1 : Int32)) (hL σ) = true) (h2 : inR (x4 + (2 : Int32)) (hL σ) = true) (h3 : a2 % 64 = 12) : runF C d m_LL_lawz (824, [some (.ref 18), l1, some (.ref a2), l3, some (.int x4), l5, l6, l7], [.int s0], σ) = bk C d m_LL_lawz 839 [some (.ref 18), l1, some (.ref a2), l3, some (.int x4), some (.int s0), l6, l7] [] (C m_Mo_swells [.ref a2, .int (gI σ 18 (Int32.toNatClampNeg (x4 + (1 : Int32)))), .int (gI σ 18 (Int32.toNatClampNeg (x4 + (2 : Int32))))] σ) := by
  refine (r_istore 5 (show decode (zb m_LL_lawz) 824 = .ok (.istore 5, 2) from by decide +kernel) rfl).trans ?_
  refine (r_aloadn 2 (show decode (zb m_LL_lawz) 826 = .ok (.aload_n 2, 1) from by decide +kernel) rfl).trans ?_
  refine (r_aloadn 0 (show decode (zb m_LL_lawz) 827 = .ok (.aload_n 0, 1) from by decide +kernel) rfl).trans ?_
  refine (r_iload 4 (show decode (zb m_LL_lawz) 828 = .ok (.iload 4, 2) from by decide +kernel) rfl).trans ?_
  refine (r_iconst (v := (1 : Int32)) (show decode (zb m_LL_lawz) 830 = .ok (.iconst (1), 1) from by decide +kernel) (by decide)).trans ?_
  refine (r_iadd (show decode (zb m_LL_lawz) 831 = .ok (.iadd, 1) from by decide +kernel)).trans ?_
  refine (r_iald18 (show decode (zb m_LL_lawz) 832 = .ok (.iaload, 1) from by decide +kernel) h1).trans ?_
  refine (r_aloadn 0 (show decode (zb m_LL_lawz) 833 = .ok (.aload_n 0, 1) from by decide +kernel) rfl).trans ?_
  refine (r_iload 4 (show decode (zb m_LL_lawz) 834 = .ok (.iload 4, 2) from by decide +kernel) rfl).trans ?_
  refine (r_iconst (v := (2 : Int32)) (show decode (zb m_LL_lawz) 836 = .ok (.iconst (2), 1) from by decide +kernel) (by decide)).trans ?_
  refine (r_iadd (show decode (zb m_LL_lawz) 837 = .ok (.iadd, 1) from by decide +kernel)).trans ?_
  refine (r_iald18 (show decode (zb m_LL_lawz) 838 = .ok (.iaload, 1) from by decide +kernel) h2).trans ?_
  exact r_virt (args := [.int (gI σ 18 (Int32.toNatClampNeg (x4 + (1 : Int32)))), .int (gI σ 18 (Int32.toNatClampNeg (x4 + (2 : Int32))))]) (rest := []) (show decode (zb m_LL_lawz) 839 = .ok (.invokevirtual 164, 3) from by decide +kernel) rfl rfl rfl h3
theorem b_LL_lawz_842 {C : CF} {d : Nat} {σ : HP} {s0 : Int32} {a2 : Nat} {l0 : Option Value} {l1 : Option Value} {l3 : Option Value} {l4 : Option Value} {l5 : Option Value} {l6 : Option Value} {l7 : Option Value} (h1 : a2 % 64 = 12) : runF C d m_LL_lawz (842, [l0, l1, some (.ref a2), l3, l4, l5, l6, l7], [.int s0], σ) = bk C d m_LL_lawz 845 [l0, l1, some (.ref a2), l3, l4, l5, some (.int s0), l7] [] (C m_Mo_thrown [.ref a2] σ) := by
  refine (r_istore 6 (show decode (zb m_LL_lawz) 842 = .ok (.istore 6, 2) from by decide +kernel) rfl).trans ?_
  refine (r_aloadn 2 (show decode (zb m_LL_lawz) 844 = .ok (.aload_n 2, 1) from by decide +kernel) rfl).trans ?_
  exact r_virt (args := []) (rest := []) (show decode (zb m_LL_lawz) 845 = .ok (.invokevirtual 128, 3) from by decide +kernel) rfl rfl rfl h1
theorem b_LL_lawz_848 {C : CF} {d : Nat} {σ : HP} {s0 : Int32} {x5 : Int32} {l0 : Option Value} {l1 : Option Value} {l2 : Option Value} {l3 : Option Value} {l4 : Option Value} {l6 : Option Value} {l7 : Option Value}  : runF C d m_LL_lawz (848, [l0, l1, l2, l3, l4, some (.int x5), l6, l7], [.int s0], σ) = if s0 = x5 then runF C d m_LL_lawz (855, [l0, l1, l2, l3, l4, some (.int x5), l6, l7], [], σ) else runF C d m_LL_lawz (853, [l0, l1, l2, l3, l4, some (.int x5), l6, l7], [], σ) := by
  refine (r_iload 5 (show decode (zb m_LL_lawz) 848 = .ok (.iload 5, 2) from by decide +kernel) rfl).trans ?_
  exact r_icmp_eq 855 (show decode (zb m_LL_lawz) 850 = .ok (.if_icmp .eq (5), 3) from by decide +kernel) rfl
theorem b_LL_lawz_853 {C : CF} {d : Nat} {σ : HP} {l0 : Option Value} {l1 : Option Value} {l2 : Option Value} {l3 : Option Value} {l4 : Option Value} {l5 : Option Value} {l6 : Option Value} {l7 : Option Value}  : runF C d m_LL_lawz (853, [l0, l1, l2, l3, l4, l5, l6, l7], [], σ) = some (.inl (some (.int (0 : Int32))), σ) := by
  refine (r_iconst (v := (0 : Int32)) (show decode (zb m_LL_lawz) 853 = .ok (.iconst (0), 1) from by decide +kernel) (by decide)).trans ?_
  exact r_bret (show decode (zb m_LL_lawz) 854 = .ok (.ireturn, 1) from by decide +kernel) rfl (by decide)
theorem b_LL_lawz_855 {C : CF} {d : Nat} {σ : HP} {x5 : Int32} {l0 : Option Value} {l1 : Option Value} {l2 : Option Value} {l3 : Option Value} {l4 : Option Value} {l6 : Option Value} {l7 : Option Value}  : runF C d m_LL_lawz (855, [l0, l1, l2, l3, l4, some (.int x5), l6, l7], [], σ) = if ¬ x5 = 0 then runF C d m_LL_lawz (872, [l0, l1, l2, l3, l4, some (.int x5), l6, l7], [], σ) else runF C d m_LL_lawz (860, [l0, l1, l2, l3, l4, some (.int x5), l6, l7], [], σ) := by
  refine (r_iload 5 (show decode (zb m_LL_lawz) 855 = .ok (.iload 5, 2) from by decide +kernel) rfl).trans ?_
  exact r_if_ne 872 (show decode (zb m_LL_lawz) 857 = .ok (.ifCond .ne (15), 3) from by decide +kernel) rfl
theorem b_LL_lawz_860 {C : CF} {d : Nat} {σ : HP} {a3 : Nat} {x6 : Int32} {l0 : Option Value} {l1 : Option Value} {l2 : Option Value} {l4 : Option Value} {l5 : Option Value} {l7 : Option Value} (h1 : aty (a3 % 64) = 2) (h2 : inR (0 : Int32) (alen (a3 % 64)) = true) : runF C d m_LL_lawz (860, [l0, l1, l2, some (.ref a3), l4, l5, some (.int x6), l7], [], σ) = if (lg_cmp (gJ σ a3 (Int32.toNatClampNeg (0 : Int32))) (Int32.toInt64 x6)) = 0 then runF C d m_LL_lawz (872, [l0, l1, l2, some (.ref a3), l4, l5, some (.int x6), l7], [], σ) else runF C d m_LL_lawz (870, [l0, l1, l2, some (.ref a3), l4, l5, some (.int x6), l7], [], σ) := by
  refine (r_aloadn 3 (show decode (zb m_LL_lawz) 860 = .ok (.aload_n 3, 1) from by decide +kernel) rfl).trans ?_
  refine (r_iconst (v := (0 : Int32)) (show decode (zb m_LL_lawz) 861 = .ok (.iconst (0), 1) from by decide +kernel) (by decide)).trans ?_
  refine (r_lald (show decode (zb m_LL_lawz) 862 = .ok (.laload, 1) from by decide +kernel) h1 h2).trans ?_
  refine (r_iload 6 (show decode (zb m_LL_lawz) 863 = .ok (.iload 6, 2) from by decide +kernel) rfl).trans ?_
  refine (r_i2l (show decode (zb m_LL_lawz) 865 = .ok (.i2l, 1) from by decide +kernel)).trans ?_
  refine (r_lcmp (show decode (zb m_LL_lawz) 866 = .ok (.lcmp, 1) from by decide +kernel)).trans ?_
  exact r_if_eq 872 (show decode (zb m_LL_lawz) 867 = .ok (.ifCond .eq (5), 3) from by decide +kernel) rfl
theorem b_LL_lawz_870 {C : CF} {d : Nat} {σ : HP} {l0 : Option Value} {l1 : Option Value} {l2 : Option Value} {l3 : Option Value} {l4 : Option Value} {l5 : Option Value} {l6 : Option Value} {l7 : Option Value}  : runF C d m_LL_lawz (870, [l0, l1, l2, l3, l4, l5, l6, l7], [], σ) = some (.inl (some (.int (0 : Int32))), σ) := by
  refine (r_iconst (v := (0 : Int32)) (show decode (zb m_LL_lawz) 870 = .ok (.iconst (0), 1) from by decide +kernel) (by decide)).trans ?_
  exact r_bret (show decode (zb m_LL_lawz) 871 = .ok (.ireturn, 1) from by decide +kernel) rfl (by decide)
theorem b_LL_lawz_872 {C : CF} {d : Nat} {σ : HP} {l0 : Option Value} {l1 : Option Value} {l2 : Option Value} {l3 : Option Value} {l4 : Option Value} {l5 : Option Value} {l6 : Option Value} {l7 : Option Value}  : runF C d m_LL_lawz (872, [l0, l1, l2, l3, l4, l5, l6, l7], [], σ) = runF C d m_LL_lawz (2580, [l0, l1, l2, l3, l4, l5, l6, l7], [], σ) := by
  exact r_goto 2580 (show decode (zb m_LL_lawz) 872 = .ok (.goto (1708), 3) from by decide +kernel) rfl
theorem b_LL_lawz_875 {C : CF} {d : Nat} {σ : HP} {a1 : Nat} {x4 : Int32} {a3 : Nat} {l2 : Option Value} {l5 : Option Value} {l6 : Option Value} {l7 : Option Value} (h1 : inR (x4 + (1 : Int32)) (hL σ) = true) (h2 : inR (x4 + (2 : Int32)) (hL σ) = true) (h3 : inR (x4 + (3 : Int32)) (hL σ) = true) (h4 : inR (x4 + (4 : Int32)) (hL σ) = true) (h5 : inR (x4 + (5 : Int32)) (hL σ) = true) (h6 : inR (x4 + (6 : Int32)) (hL σ) = true) (h7 : inR (x4 + (7 : Int32)) (hL σ) = true) (h8 : inR (x4 + (8 : Int32)) (hL σ) = true) (h9 : inR (x4 + (9 : Int32)) (hL σ) = true) : runF C d m_LL_lawz (875, [some (.ref 18), some (.ref a1), l2, some (.ref a3), some (.int x4), l5, l6, l7], [], σ) = bkN C d m_LL_lawz 935 [some (.ref 18), some (.ref a1), l2, some (.ref a3), some (.int x4), l5, l6, l7] [] (C m_LL_would [.ref a1, .int (gI σ 18 (Int32.toNatClampNeg (x4 + (1 : Int32)))), .int (gI σ 18 (Int32.toNatClampNeg (x4 + (2 : Int32)))), .int (gI σ 18 (Int32.toNatClampNeg (x4 + (3 : Int32)))), .int (gI σ 18 (Int32.toNatClampNeg (x4 + (4 : Int32)))), .int (gI σ 18 (Int32.toNatClampNeg (x4 + (5 : Int32)))), .int (gI σ 18 (Int32.toNatClampNeg (x4 + (6 : Int32)))), .int (gI σ 18 (Int32.toNatClampNeg (x4 + (7 : Int32)))), .int (gI σ 18 (Int32.toNatClampNeg (x4 + (8 : Int32)))), .int (gI σ 18 (Int32.toNatClampNeg (x4 + (9 : Int32)))), .ref a3] σ) := by
  refine (r_aloadn 1 (show decode (zb m_LL_lawz) 875 = .ok (.aload_n 1, 1) from by decide +kernel) rfl).trans ?_
  refine (r_aloadn 0 (show decode (zb m_LL_lawz) 876 = .ok (.aload_n 0, 1) from by decide +kernel) rfl).trans ?_
  refine (r_iload 4 (show decode (zb m_LL_lawz) 877 = .ok (.iload 4, 2) from by decide +kernel) rfl).trans ?_
  refine (r_iconst (v := (1 : Int32)) (show decode (zb m_LL_lawz) 879 = .ok (.iconst (1), 1) from by decide +kernel) (by decide)).trans ?_
  refine (r_iadd (show decode (zb m_LL_lawz) 880 = .ok (.iadd, 1) from by decide +kernel)).trans ?_
  refine (r_iald18 (show decode (zb m_LL_lawz) 881 = .ok (.iaload, 1) from by decide +kernel) h1).trans ?_
  refine (r_aloadn 0 (show decode (zb m_LL_lawz) 882 = .ok (.aload_n 0, 1) from by decide +kernel) rfl).trans ?_
  refine (r_iload 4 (show decode (zb m_LL_lawz) 883 = .ok (.iload 4, 2) from by decide +kernel) rfl).trans ?_
  refine (r_iconst (v := (2 : Int32)) (show decode (zb m_LL_lawz) 885 = .ok (.iconst (2), 1) from by decide +kernel) (by decide)).trans ?_
  refine (r_iadd (show decode (zb m_LL_lawz) 886 = .ok (.iadd, 1) from by decide +kernel)).trans ?_
  refine (r_iald18 (show decode (zb m_LL_lawz) 887 = .ok (.iaload, 1) from by decide +kernel) h2).trans ?_
  refine (r_aloadn 0 (show decode (zb m_LL_lawz) 888 = .ok (.aload_n 0, 1) from by decide +kernel) rfl).trans ?_
  refine (r_iload 4 (show decode (zb m_LL_lawz) 889 = .ok (.iload 4, 2) from by decide +kernel) rfl).trans ?_
  refine (r_iconst (v := (3 : Int32)) (show decode (zb m_LL_lawz) 891 = .ok (.iconst (3), 1) from by decide +kernel) (by decide)).trans ?_
  refine (r_iadd (show decode (zb m_LL_lawz) 892 = .ok (.iadd, 1) from by decide +kernel)).trans ?_
  refine (r_iald18 (show decode (zb m_LL_lawz) 893 = .ok (.iaload, 1) from by decide +kernel) h3).trans ?_
  refine (r_aloadn 0 (show decode (zb m_LL_lawz) 894 = .ok (.aload_n 0, 1) from by decide +kernel) rfl).trans ?_
  refine (r_iload 4 (show decode (zb m_LL_lawz) 895 = .ok (.iload 4, 2) from by decide +kernel) rfl).trans ?_
  refine (r_iconst (v := (4 : Int32)) (show decode (zb m_LL_lawz) 897 = .ok (.iconst (4), 1) from by decide +kernel) (by decide)).trans ?_
  refine (r_iadd (show decode (zb m_LL_lawz) 898 = .ok (.iadd, 1) from by decide +kernel)).trans ?_
  refine (r_iald18 (show decode (zb m_LL_lawz) 899 = .ok (.iaload, 1) from by decide +kernel) h4).trans ?_
  refine (r_aloadn 0 (show decode (zb m_LL_lawz) 900 = .ok (.aload_n 0, 1) from by decide +kernel) rfl).trans ?_
  refine (r_iload 4 (show decode (zb m_LL_lawz) 901 = .ok (.iload 4, 2) from by decide +kernel) rfl).trans ?_
  refine (r_iconst (v := (5 : Int32)) (show decode (zb m_LL_lawz) 903 = .ok (.iconst (5), 1) from by decide +kernel) (by decide)).trans ?_
  refine (r_iadd (show decode (zb m_LL_lawz) 904 = .ok (.iadd, 1) from by decide +kernel)).trans ?_
  refine (r_iald18 (show decode (zb m_LL_lawz) 905 = .ok (.iaload, 1) from by decide +kernel) h5).trans ?_
  refine (r_aloadn 0 (show decode (zb m_LL_lawz) 906 = .ok (.aload_n 0, 1) from by decide +kernel) rfl).trans ?_
  refine (r_iload 4 (show decode (zb m_LL_lawz) 907 = .ok (.iload 4, 2) from by decide +kernel) rfl).trans ?_
  refine (r_bipush (v := (6 : Int32)) (show decode (zb m_LL_lawz) 909 = .ok (.bipush (6), 2) from by decide +kernel) (by decide)).trans ?_
  refine (r_iadd (show decode (zb m_LL_lawz) 911 = .ok (.iadd, 1) from by decide +kernel)).trans ?_
  refine (r_iald18 (show decode (zb m_LL_lawz) 912 = .ok (.iaload, 1) from by decide +kernel) h6).trans ?_
  refine (r_aloadn 0 (show decode (zb m_LL_lawz) 913 = .ok (.aload_n 0, 1) from by decide +kernel) rfl).trans ?_
  refine (r_iload 4 (show decode (zb m_LL_lawz) 914 = .ok (.iload 4, 2) from by decide +kernel) rfl).trans ?_
  refine (r_bipush (v := (7 : Int32)) (show decode (zb m_LL_lawz) 916 = .ok (.bipush (7), 2) from by decide +kernel) (by decide)).trans ?_
  refine (r_iadd (show decode (zb m_LL_lawz) 918 = .ok (.iadd, 1) from by decide +kernel)).trans ?_
  refine (r_iald18 (show decode (zb m_LL_lawz) 919 = .ok (.iaload, 1) from by decide +kernel) h7).trans ?_
  refine (r_aloadn 0 (show decode (zb m_LL_lawz) 920 = .ok (.aload_n 0, 1) from by decide +kernel) rfl).trans ?_
  refine (r_iload 4 (show decode (zb m_LL_lawz) 921 = .ok (.iload 4, 2) from by decide +kernel) rfl).trans ?_
  refine (r_bipush (v := (8 : Int32)) (show decode (zb m_LL_lawz) 923 = .ok (.bipush (8), 2) from by decide +kernel) (by decide)).trans ?_
  refine (r_iadd (show decode (zb m_LL_lawz) 925 = .ok (.iadd, 1) from by decide +kernel)).trans ?_
  refine (r_iald18 (show decode (zb m_LL_lawz) 926 = .ok (.iaload, 1) from by decide +kernel) h8).trans ?_
  refine (r_aloadn 0 (show decode (zb m_LL_lawz) 927 = .ok (.aload_n 0, 1) from by decide +kernel) rfl).trans ?_
  refine (r_iload 4 (show decode (zb m_LL_lawz) 928 = .ok (.iload 4, 2) from by decide +kernel) rfl).trans ?_
  refine (r_bipush (v := (9 : Int32)) (show decode (zb m_LL_lawz) 930 = .ok (.bipush (9), 2) from by decide +kernel) (by decide)).trans ?_
  refine (r_iadd (show decode (zb m_LL_lawz) 932 = .ok (.iadd, 1) from by decide +kernel)).trans ?_
  refine (r_iald18 (show decode (zb m_LL_lawz) 933 = .ok (.iaload, 1) from by decide +kernel) h9).trans ?_
  refine (r_aloadn 3 (show decode (zb m_LL_lawz) 934 = .ok (.aload_n 3, 1) from by decide +kernel) rfl).trans ?_
  exact r_stat (args := [.ref a1, .int (gI σ 18 (Int32.toNatClampNeg (x4 + (1 : Int32)))), .int (gI σ 18 (Int32.toNatClampNeg (x4 + (2 : Int32)))), .int (gI σ 18 (Int32.toNatClampNeg (x4 + (3 : Int32)))), .int (gI σ 18 (Int32.toNatClampNeg (x4 + (4 : Int32)))), .int (gI σ 18 (Int32.toNatClampNeg (x4 + (5 : Int32)))), .int (gI σ 18 (Int32.toNatClampNeg (x4 + (6 : Int32)))), .int (gI σ 18 (Int32.toNatClampNeg (x4 + (7 : Int32)))), .int (gI σ 18 (Int32.toNatClampNeg (x4 + (8 : Int32)))), .int (gI σ 18 (Int32.toNatClampNeg (x4 + (9 : Int32)))), .ref a3]) (rest := []) (show decode (zb m_LL_lawz) 935 = .ok (.invokestatic 165, 3) from by decide +kernel) rfl (by decide) rfl rfl
theorem b_LL_lawz_938 {C : CF} {d : Nat} {σ : HP} {s0 : Int32} {a2 : Nat} {x4 : Int32} {l1 : Option Value} {l3 : Option Value} {l5 : Option Value} {l6 : Option Value} {l7 : Option Value} (h1 : inR (x4 + (1 : Int32)) (hL σ) = true) (h2 : inR (x4 + (2 : Int32)) (hL σ) = true) (h3 : inR (x4 + (3 : Int32)) (hL σ) = true) (h4 : inR (x4 + (4 : Int32)) (hL σ) = true) (h5 : inR (x4 + (5 : Int32)) (hL σ) = true) (h6 : inR (x4 + (6 : Int32)) (hL σ) = true) (h7 : inR (x4 + (7 : Int32)) (hL σ) = true) (h8 : inR (x4 + (8 : Int32)) (hL σ) = true) (h9 : inR (x4 + (9 : Int32)) (hL σ) = true) (h10 : a2 % 64 = 12) : runF C d m_LL_lawz (938, [some (.ref 18), l1, some (.ref a2), l3, some (.int x4), l5, l6, l7], [.int s0], σ) = bk C d m_LL_lawz 999 [some (.ref 18), l1, some (.ref a2), l3, some (.int x4), some (.int s0), l6, l7] [] (C m_Mo_would [.ref a2, .int (gI σ 18 (Int32.toNatClampNeg (x4 + (1 : Int32)))), .int (gI σ 18 (Int32.toNatClampNeg (x4 + (2 : Int32)))), .int (gI σ 18 (Int32.toNatClampNeg (x4 + (3 : Int32)))), .int (gI σ 18 (Int32.toNatClampNeg (x4 + (4 : Int32)))), .int (gI σ 18 (Int32.toNatClampNeg (x4 + (5 : Int32)))), .int (gI σ 18 (Int32.toNatClampNeg (x4 + (6 : Int32)))), .int (gI σ 18 (Int32.toNatClampNeg (x4 + (7 : Int32)))), .int (gI σ 18 (Int32.toNatClampNeg (x4 + (8 : Int32)))), .int (gI σ 18 (Int32.toNatClampNeg (x4 + (9 : Int32))))] σ) := by
  refine (r_istore 5 (show decode (zb m_LL_lawz) 938 = .ok (.istore 5, 2) from by decide +kernel) rfl).trans ?_
  refine (r_aloadn 2 (show decode (zb m_LL_lawz) 940 = .ok (.aload_n 2, 1) from by decide +kernel) rfl).trans ?_
  refine (r_aloadn 0 (show decode (zb m_LL_lawz) 941 = .ok (.aload_n 0, 1) from by decide +kernel) rfl).trans ?_
  refine (r_iload 4 (show decode (zb m_LL_lawz) 942 = .ok (.iload 4, 2) from by decide +kernel) rfl).trans ?_
  refine (r_iconst (v := (1 : Int32)) (show decode (zb m_LL_lawz) 944 = .ok (.iconst (1), 1) from by decide +kernel) (by decide)).trans ?_
  refine (r_iadd (show decode (zb m_LL_lawz) 945 = .ok (.iadd, 1) from by decide +kernel)).trans ?_
  refine (r_iald18 (show decode (zb m_LL_lawz) 946 = .ok (.iaload, 1) from by decide +kernel) h1).trans ?_
  refine (r_aloadn 0 (show decode (zb m_LL_lawz) 947 = .ok (.aload_n 0, 1) from by decide +kernel) rfl).trans ?_
  refine (r_iload 4 (show decode (zb m_LL_lawz) 948 = .ok (.iload 4, 2) from by decide +kernel) rfl).trans ?_
  refine (r_iconst (v := (2 : Int32)) (show decode (zb m_LL_lawz) 950 = .ok (.iconst (2), 1) from by decide +kernel) (by decide)).trans ?_
  refine (r_iadd (show decode (zb m_LL_lawz) 951 = .ok (.iadd, 1) from by decide +kernel)).trans ?_
  refine (r_iald18 (show decode (zb m_LL_lawz) 952 = .ok (.iaload, 1) from by decide +kernel) h2).trans ?_
  refine (r_aloadn 0 (show decode (zb m_LL_lawz) 953 = .ok (.aload_n 0, 1) from by decide +kernel) rfl).trans ?_
  refine (r_iload 4 (show decode (zb m_LL_lawz) 954 = .ok (.iload 4, 2) from by decide +kernel) rfl).trans ?_
  refine (r_iconst (v := (3 : Int32)) (show decode (zb m_LL_lawz) 956 = .ok (.iconst (3), 1) from by decide +kernel) (by decide)).trans ?_
  refine (r_iadd (show decode (zb m_LL_lawz) 957 = .ok (.iadd, 1) from by decide +kernel)).trans ?_
  refine (r_iald18 (show decode (zb m_LL_lawz) 958 = .ok (.iaload, 1) from by decide +kernel) h3).trans ?_
  refine (r_aloadn 0 (show decode (zb m_LL_lawz) 959 = .ok (.aload_n 0, 1) from by decide +kernel) rfl).trans ?_
  refine (r_iload 4 (show decode (zb m_LL_lawz) 960 = .ok (.iload 4, 2) from by decide +kernel) rfl).trans ?_
  refine (r_iconst (v := (4 : Int32)) (show decode (zb m_LL_lawz) 962 = .ok (.iconst (4), 1) from by decide +kernel) (by decide)).trans ?_
  refine (r_iadd (show decode (zb m_LL_lawz) 963 = .ok (.iadd, 1) from by decide +kernel)).trans ?_
  refine (r_iald18 (show decode (zb m_LL_lawz) 964 = .ok (.iaload, 1) from by decide +kernel) h4).trans ?_
  refine (r_aloadn 0 (show decode (zb m_LL_lawz) 965 = .ok (.aload_n 0, 1) from by decide +kernel) rfl).trans ?_
  refine (r_iload 4 (show decode (zb m_LL_lawz) 966 = .ok (.iload 4, 2) from by decide +kernel) rfl).trans ?_
  refine (r_iconst (v := (5 : Int32)) (show decode (zb m_LL_lawz) 968 = .ok (.iconst (5), 1) from by decide +kernel) (by decide)).trans ?_
  refine (r_iadd (show decode (zb m_LL_lawz) 969 = .ok (.iadd, 1) from by decide +kernel)).trans ?_
  refine (r_iald18 (show decode (zb m_LL_lawz) 970 = .ok (.iaload, 1) from by decide +kernel) h5).trans ?_
  refine (r_aloadn 0 (show decode (zb m_LL_lawz) 971 = .ok (.aload_n 0, 1) from by decide +kernel) rfl).trans ?_
  refine (r_iload 4 (show decode (zb m_LL_lawz) 972 = .ok (.iload 4, 2) from by decide +kernel) rfl).trans ?_
  refine (r_bipush (v := (6 : Int32)) (show decode (zb m_LL_lawz) 974 = .ok (.bipush (6), 2) from by decide +kernel) (by decide)).trans ?_
  refine (r_iadd (show decode (zb m_LL_lawz) 976 = .ok (.iadd, 1) from by decide +kernel)).trans ?_
  refine (r_iald18 (show decode (zb m_LL_lawz) 977 = .ok (.iaload, 1) from by decide +kernel) h6).trans ?_
  refine (r_aloadn 0 (show decode (zb m_LL_lawz) 978 = .ok (.aload_n 0, 1) from by decide +kernel) rfl).trans ?_
  refine (r_iload 4 (show decode (zb m_LL_lawz) 979 = .ok (.iload 4, 2) from by decide +kernel) rfl).trans ?_
  refine (r_bipush (v := (7 : Int32)) (show decode (zb m_LL_lawz) 981 = .ok (.bipush (7), 2) from by decide +kernel) (by decide)).trans ?_
  refine (r_iadd (show decode (zb m_LL_lawz) 983 = .ok (.iadd, 1) from by decide +kernel)).trans ?_
  refine (r_iald18 (show decode (zb m_LL_lawz) 984 = .ok (.iaload, 1) from by decide +kernel) h7).trans ?_
  refine (r_aloadn 0 (show decode (zb m_LL_lawz) 985 = .ok (.aload_n 0, 1) from by decide +kernel) rfl).trans ?_
  refine (r_iload 4 (show decode (zb m_LL_lawz) 986 = .ok (.iload 4, 2) from by decide +kernel) rfl).trans ?_
  refine (r_bipush (v := (8 : Int32)) (show decode (zb m_LL_lawz) 988 = .ok (.bipush (8), 2) from by decide +kernel) (by decide)).trans ?_
  refine (r_iadd (show decode (zb m_LL_lawz) 990 = .ok (.iadd, 1) from by decide +kernel)).trans ?_
  refine (r_iald18 (show decode (zb m_LL_lawz) 991 = .ok (.iaload, 1) from by decide +kernel) h8).trans ?_
  refine (r_aloadn 0 (show decode (zb m_LL_lawz) 992 = .ok (.aload_n 0, 1) from by decide +kernel) rfl).trans ?_
  refine (r_iload 4 (show decode (zb m_LL_lawz) 993 = .ok (.iload 4, 2) from by decide +kernel) rfl).trans ?_
  refine (r_bipush (v := (9 : Int32)) (show decode (zb m_LL_lawz) 995 = .ok (.bipush (9), 2) from by decide +kernel) (by decide)).trans ?_
  refine (r_iadd (show decode (zb m_LL_lawz) 997 = .ok (.iadd, 1) from by decide +kernel)).trans ?_
  refine (r_iald18 (show decode (zb m_LL_lawz) 998 = .ok (.iaload, 1) from by decide +kernel) h9).trans ?_
  exact r_virt (args := [.int (gI σ 18 (Int32.toNatClampNeg (x4 + (1 : Int32)))), .int (gI σ 18 (Int32.toNatClampNeg (x4 + (2 : Int32)))), .int (gI σ 18 (Int32.toNatClampNeg (x4 + (3 : Int32)))), .int (gI σ 18 (Int32.toNatClampNeg (x4 + (4 : Int32)))), .int (gI σ 18 (Int32.toNatClampNeg (x4 + (5 : Int32)))), .int (gI σ 18 (Int32.toNatClampNeg (x4 + (6 : Int32)))), .int (gI σ 18 (Int32.toNatClampNeg (x4 + (7 : Int32)))), .int (gI σ 18 (Int32.toNatClampNeg (x4 + (8 : Int32)))), .int (gI σ 18 (Int32.toNatClampNeg (x4 + (9 : Int32))))]) (rest := []) (show decode (zb m_LL_lawz) 999 = .ok (.invokevirtual 168, 3) from by decide +kernel) rfl rfl rfl h10
theorem b_LL_lawz_1002 {C : CF} {d : Nat} {σ : HP} {s0 : Int32} {a2 : Nat} {l0 : Option Value} {l1 : Option Value} {l3 : Option Value} {l4 : Option Value} {l5 : Option Value} {l6 : Option Value} {l7 : Option Value} (h1 : a2 % 64 = 12) : runF C d m_LL_lawz (1002, [l0, l1, some (.ref a2), l3, l4, l5, l6, l7], [.int s0], σ) = bk C d m_LL_lawz 1005 [l0, l1, some (.ref a2), l3, l4, l5, some (.int s0), l7] [] (C m_Mo_thrown [.ref a2] σ) := by
  refine (r_istore 6 (show decode (zb m_LL_lawz) 1002 = .ok (.istore 6, 2) from by decide +kernel) rfl).trans ?_
  refine (r_aloadn 2 (show decode (zb m_LL_lawz) 1004 = .ok (.aload_n 2, 1) from by decide +kernel) rfl).trans ?_
  exact r_virt (args := []) (rest := []) (show decode (zb m_LL_lawz) 1005 = .ok (.invokevirtual 128, 3) from by decide +kernel) rfl rfl rfl h1
theorem b_LL_lawz_1008 {C : CF} {d : Nat} {σ : HP} {s0 : Int32} {x5 : Int32} {l0 : Option Value} {l1 : Option Value} {l2 : Option Value} {l3 : Option Value} {l4 : Option Value} {l6 : Option Value} {l7 : Option Value}  : runF C d m_LL_lawz (1008, [l0, l1, l2, l3, l4, some (.int x5), l6, l7], [.int s0], σ) = if s0 = x5 then runF C d m_LL_lawz (1015, [l0, l1, l2, l3, l4, some (.int x5), l6, l7], [], σ) else runF C d m_LL_lawz (1013, [l0, l1, l2, l3, l4, some (.int x5), l6, l7], [], σ) := by
  refine (r_iload 5 (show decode (zb m_LL_lawz) 1008 = .ok (.iload 5, 2) from by decide +kernel) rfl).trans ?_
  exact r_icmp_eq 1015 (show decode (zb m_LL_lawz) 1010 = .ok (.if_icmp .eq (5), 3) from by decide +kernel) rfl
theorem b_LL_lawz_1013 {C : CF} {d : Nat} {σ : HP} {l0 : Option Value} {l1 : Option Value} {l2 : Option Value} {l3 : Option Value} {l4 : Option Value} {l5 : Option Value} {l6 : Option Value} {l7 : Option Value}  : runF C d m_LL_lawz (1013, [l0, l1, l2, l3, l4, l5, l6, l7], [], σ) = some (.inl (some (.int (0 : Int32))), σ) := by
  refine (r_iconst (v := (0 : Int32)) (show decode (zb m_LL_lawz) 1013 = .ok (.iconst (0), 1) from by decide +kernel) (by decide)).trans ?_
  exact r_bret (show decode (zb m_LL_lawz) 1014 = .ok (.ireturn, 1) from by decide +kernel) rfl (by decide)
theorem b_LL_lawz_1015 {C : CF} {d : Nat} {σ : HP} {x5 : Int32} {l0 : Option Value} {l1 : Option Value} {l2 : Option Value} {l3 : Option Value} {l4 : Option Value} {l6 : Option Value} {l7 : Option Value}  : runF C d m_LL_lawz (1015, [l0, l1, l2, l3, l4, some (.int x5), l6, l7], [], σ) = if ¬ x5 = 0 then runF C d m_LL_lawz (1032, [l0, l1, l2, l3, l4, some (.int x5), l6, l7], [], σ) else runF C d m_LL_lawz (1020, [l0, l1, l2, l3, l4, some (.int x5), l6, l7], [], σ) := by
  refine (r_iload 5 (show decode (zb m_LL_lawz) 1015 = .ok (.iload 5, 2) from by decide +kernel) rfl).trans ?_
  exact r_if_ne 1032 (show decode (zb m_LL_lawz) 1017 = .ok (.ifCond .ne (15), 3) from by decide +kernel) rfl
theorem b_LL_lawz_1020 {C : CF} {d : Nat} {σ : HP} {a3 : Nat} {x6 : Int32} {l0 : Option Value} {l1 : Option Value} {l2 : Option Value} {l4 : Option Value} {l5 : Option Value} {l7 : Option Value} (h1 : aty (a3 % 64) = 2) (h2 : inR (0 : Int32) (alen (a3 % 64)) = true) : runF C d m_LL_lawz (1020, [l0, l1, l2, some (.ref a3), l4, l5, some (.int x6), l7], [], σ) = if (lg_cmp (gJ σ a3 (Int32.toNatClampNeg (0 : Int32))) (Int32.toInt64 x6)) = 0 then runF C d m_LL_lawz (1032, [l0, l1, l2, some (.ref a3), l4, l5, some (.int x6), l7], [], σ) else runF C d m_LL_lawz (1030, [l0, l1, l2, some (.ref a3), l4, l5, some (.int x6), l7], [], σ) := by
  refine (r_aloadn 3 (show decode (zb m_LL_lawz) 1020 = .ok (.aload_n 3, 1) from by decide +kernel) rfl).trans ?_
  refine (r_iconst (v := (0 : Int32)) (show decode (zb m_LL_lawz) 1021 = .ok (.iconst (0), 1) from by decide +kernel) (by decide)).trans ?_
  refine (r_lald (show decode (zb m_LL_lawz) 1022 = .ok (.laload, 1) from by decide +kernel) h1 h2).trans ?_
  refine (r_iload 6 (show decode (zb m_LL_lawz) 1023 = .ok (.iload 6, 2) from by decide +kernel) rfl).trans ?_
  refine (r_i2l (show decode (zb m_LL_lawz) 1025 = .ok (.i2l, 1) from by decide +kernel)).trans ?_
  refine (r_lcmp (show decode (zb m_LL_lawz) 1026 = .ok (.lcmp, 1) from by decide +kernel)).trans ?_
  exact r_if_eq 1032 (show decode (zb m_LL_lawz) 1027 = .ok (.ifCond .eq (5), 3) from by decide +kernel) rfl
theorem b_LL_lawz_1030 {C : CF} {d : Nat} {σ : HP} {l0 : Option Value} {l1 : Option Value} {l2 : Option Value} {l3 : Option Value} {l4 : Option Value} {l5 : Option Value} {l6 : Option Value} {l7 : Option Value}  : runF C d m_LL_lawz (1030, [l0, l1, l2, l3, l4, l5, l6, l7], [], σ) = some (.inl (some (.int (0 : Int32))), σ) := by
  refine (r_iconst (v := (0 : Int32)) (show decode (zb m_LL_lawz) 1030 = .ok (.iconst (0), 1) from by decide +kernel) (by decide)).trans ?_
  exact r_bret (show decode (zb m_LL_lawz) 1031 = .ok (.ireturn, 1) from by decide +kernel) rfl (by decide)
theorem b_LL_lawz_1032 {C : CF} {d : Nat} {σ : HP} {l0 : Option Value} {l1 : Option Value} {l2 : Option Value} {l3 : Option Value} {l4 : Option Value} {l5 : Option Value} {l6 : Option Value} {l7 : Option Value}  : runF C d m_LL_lawz (1032, [l0, l1, l2, l3, l4, l5, l6, l7], [], σ) = runF C d m_LL_lawz (2580, [l0, l1, l2, l3, l4, l5, l6, l7], [], σ) := by
  exact r_goto 2580 (show decode (zb m_LL_lawz) 1032 = .ok (.goto (1548), 3) from by decide +kernel) rfl
theorem b_LL_lawz_1035 {C : CF} {d : Nat} {σ : HP} {a1 : Nat} {x4 : Int32} {a3 : Nat} {l2 : Option Value} {l5 : Option Value} {l6 : Option Value} {l7 : Option Value} (h1 : inR (x4 + (1 : Int32)) (hL σ) = true) (h2 : inR (x4 + (2 : Int32)) (hL σ) = true) : runF C d m_LL_lawz (1035, [some (.ref 18), some (.ref a1), l2, some (.ref a3), some (.int x4), l5, l6, l7], [], σ) = bkN C d m_LL_lawz 1049 [some (.ref 18), some (.ref a1), l2, some (.ref a3), some (.int x4), l5, l6, l7] [] (C m_LL_ahead [.ref a1, .int (gI σ 18 (Int32.toNatClampNeg (x4 + (1 : Int32)))), .int (gI σ 18 (Int32.toNatClampNeg (x4 + (2 : Int32)))), .ref a3] σ) := by
  refine (r_aloadn 1 (show decode (zb m_LL_lawz) 1035 = .ok (.aload_n 1, 1) from by decide +kernel) rfl).trans ?_
  refine (r_aloadn 0 (show decode (zb m_LL_lawz) 1036 = .ok (.aload_n 0, 1) from by decide +kernel) rfl).trans ?_
  refine (r_iload 4 (show decode (zb m_LL_lawz) 1037 = .ok (.iload 4, 2) from by decide +kernel) rfl).trans ?_
  refine (r_iconst (v := (1 : Int32)) (show decode (zb m_LL_lawz) 1039 = .ok (.iconst (1), 1) from by decide +kernel) (by decide)).trans ?_
  refine (r_iadd (show decode (zb m_LL_lawz) 1040 = .ok (.iadd, 1) from by decide +kernel)).trans ?_
  refine (r_iald18 (show decode (zb m_LL_lawz) 1041 = .ok (.iaload, 1) from by decide +kernel) h1).trans ?_
  refine (r_aloadn 0 (show decode (zb m_LL_lawz) 1042 = .ok (.aload_n 0, 1) from by decide +kernel) rfl).trans ?_
  refine (r_iload 4 (show decode (zb m_LL_lawz) 1043 = .ok (.iload 4, 2) from by decide +kernel) rfl).trans ?_
  refine (r_iconst (v := (2 : Int32)) (show decode (zb m_LL_lawz) 1045 = .ok (.iconst (2), 1) from by decide +kernel) (by decide)).trans ?_
  refine (r_iadd (show decode (zb m_LL_lawz) 1046 = .ok (.iadd, 1) from by decide +kernel)).trans ?_
  refine (r_iald18 (show decode (zb m_LL_lawz) 1047 = .ok (.iaload, 1) from by decide +kernel) h2).trans ?_
  refine (r_aloadn 3 (show decode (zb m_LL_lawz) 1048 = .ok (.aload_n 3, 1) from by decide +kernel) rfl).trans ?_
  exact r_stat (args := [.ref a1, .int (gI σ 18 (Int32.toNatClampNeg (x4 + (1 : Int32)))), .int (gI σ 18 (Int32.toNatClampNeg (x4 + (2 : Int32)))), .ref a3]) (rest := []) (show decode (zb m_LL_lawz) 1049 = .ok (.invokestatic 169, 3) from by decide +kernel) rfl (by decide) rfl rfl
theorem b_LL_lawz_1052 {C : CF} {d : Nat} {σ : HP} {s0 : Int32} {a2 : Nat} {x4 : Int32} {l1 : Option Value} {l3 : Option Value} {l5 : Option Value} {l6 : Option Value} {l7 : Option Value} (h1 : inR (x4 + (1 : Int32)) (hL σ) = true) (h2 : inR (x4 + (2 : Int32)) (hL σ) = true) (h3 : a2 % 64 = 12) : runF C d m_LL_lawz (1052, [some (.ref 18), l1, some (.ref a2), l3, some (.int x4), l5, l6, l7], [.int s0], σ) = bk C d m_LL_lawz 1067 [some (.ref 18), l1, some (.ref a2), l3, some (.int x4), some (.int s0), l6, l7] [] (C m_Mo_ahead [.ref a2, .int (gI σ 18 (Int32.toNatClampNeg (x4 + (1 : Int32)))), .int (gI σ 18 (Int32.toNatClampNeg (x4 + (2 : Int32))))] σ) := by
  refine (r_istore 5 (show decode (zb m_LL_lawz) 1052 = .ok (.istore 5, 2) from by decide +kernel) rfl).trans ?_
  refine (r_aloadn 2 (show decode (zb m_LL_lawz) 1054 = .ok (.aload_n 2, 1) from by decide +kernel) rfl).trans ?_
  refine (r_aloadn 0 (show decode (zb m_LL_lawz) 1055 = .ok (.aload_n 0, 1) from by decide +kernel) rfl).trans ?_
  refine (r_iload 4 (show decode (zb m_LL_lawz) 1056 = .ok (.iload 4, 2) from by decide +kernel) rfl).trans ?_
  refine (r_iconst (v := (1 : Int32)) (show decode (zb m_LL_lawz) 1058 = .ok (.iconst (1), 1) from by decide +kernel) (by decide)).trans ?_
  refine (r_iadd (show decode (zb m_LL_lawz) 1059 = .ok (.iadd, 1) from by decide +kernel)).trans ?_
  refine (r_iald18 (show decode (zb m_LL_lawz) 1060 = .ok (.iaload, 1) from by decide +kernel) h1).trans ?_
  refine (r_aloadn 0 (show decode (zb m_LL_lawz) 1061 = .ok (.aload_n 0, 1) from by decide +kernel) rfl).trans ?_
  refine (r_iload 4 (show decode (zb m_LL_lawz) 1062 = .ok (.iload 4, 2) from by decide +kernel) rfl).trans ?_
  refine (r_iconst (v := (2 : Int32)) (show decode (zb m_LL_lawz) 1064 = .ok (.iconst (2), 1) from by decide +kernel) (by decide)).trans ?_
  refine (r_iadd (show decode (zb m_LL_lawz) 1065 = .ok (.iadd, 1) from by decide +kernel)).trans ?_
  refine (r_iald18 (show decode (zb m_LL_lawz) 1066 = .ok (.iaload, 1) from by decide +kernel) h2).trans ?_
  exact r_virt (args := [.int (gI σ 18 (Int32.toNatClampNeg (x4 + (1 : Int32)))), .int (gI σ 18 (Int32.toNatClampNeg (x4 + (2 : Int32))))]) (rest := []) (show decode (zb m_LL_lawz) 1067 = .ok (.invokevirtual 171, 3) from by decide +kernel) rfl rfl rfl h3
theorem b_LL_lawz_1070 {C : CF} {d : Nat} {σ : HP} {s0 : Int32} {a2 : Nat} {l0 : Option Value} {l1 : Option Value} {l3 : Option Value} {l4 : Option Value} {l5 : Option Value} {l6 : Option Value} {l7 : Option Value} (h1 : a2 % 64 = 12) : runF C d m_LL_lawz (1070, [l0, l1, some (.ref a2), l3, l4, l5, l6, l7], [.int s0], σ) = bk C d m_LL_lawz 1073 [l0, l1, some (.ref a2), l3, l4, l5, some (.int s0), l7] [] (C m_Mo_thrown [.ref a2] σ) := by
  refine (r_istore 6 (show decode (zb m_LL_lawz) 1070 = .ok (.istore 6, 2) from by decide +kernel) rfl).trans ?_
  refine (r_aloadn 2 (show decode (zb m_LL_lawz) 1072 = .ok (.aload_n 2, 1) from by decide +kernel) rfl).trans ?_
  exact r_virt (args := []) (rest := []) (show decode (zb m_LL_lawz) 1073 = .ok (.invokevirtual 128, 3) from by decide +kernel) rfl rfl rfl h1
theorem b_LL_lawz_1076 {C : CF} {d : Nat} {σ : HP} {s0 : Int32} {x5 : Int32} {l0 : Option Value} {l1 : Option Value} {l2 : Option Value} {l3 : Option Value} {l4 : Option Value} {l6 : Option Value} {l7 : Option Value}  : runF C d m_LL_lawz (1076, [l0, l1, l2, l3, l4, some (.int x5), l6, l7], [.int s0], σ) = if s0 = x5 then runF C d m_LL_lawz (1083, [l0, l1, l2, l3, l4, some (.int x5), l6, l7], [], σ) else runF C d m_LL_lawz (1081, [l0, l1, l2, l3, l4, some (.int x5), l6, l7], [], σ) := by
  refine (r_iload 5 (show decode (zb m_LL_lawz) 1076 = .ok (.iload 5, 2) from by decide +kernel) rfl).trans ?_
  exact r_icmp_eq 1083 (show decode (zb m_LL_lawz) 1078 = .ok (.if_icmp .eq (5), 3) from by decide +kernel) rfl
theorem b_LL_lawz_1081 {C : CF} {d : Nat} {σ : HP} {l0 : Option Value} {l1 : Option Value} {l2 : Option Value} {l3 : Option Value} {l4 : Option Value} {l5 : Option Value} {l6 : Option Value} {l7 : Option Value}  : runF C d m_LL_lawz (1081, [l0, l1, l2, l3, l4, l5, l6, l7], [], σ) = some (.inl (some (.int (0 : Int32))), σ) := by
  refine (r_iconst (v := (0 : Int32)) (show decode (zb m_LL_lawz) 1081 = .ok (.iconst (0), 1) from by decide +kernel) (by decide)).trans ?_
  exact r_bret (show decode (zb m_LL_lawz) 1082 = .ok (.ireturn, 1) from by decide +kernel) rfl (by decide)
theorem b_LL_lawz_1083 {C : CF} {d : Nat} {σ : HP} {x5 : Int32} {l0 : Option Value} {l1 : Option Value} {l2 : Option Value} {l3 : Option Value} {l4 : Option Value} {l6 : Option Value} {l7 : Option Value}  : runF C d m_LL_lawz (1083, [l0, l1, l2, l3, l4, some (.int x5), l6, l7], [], σ) = if ¬ x5 = 0 then runF C d m_LL_lawz (1100, [l0, l1, l2, l3, l4, some (.int x5), l6, l7], [], σ) else runF C d m_LL_lawz (1088, [l0, l1, l2, l3, l4, some (.int x5), l6, l7], [], σ) := by
  refine (r_iload 5 (show decode (zb m_LL_lawz) 1083 = .ok (.iload 5, 2) from by decide +kernel) rfl).trans ?_
  exact r_if_ne 1100 (show decode (zb m_LL_lawz) 1085 = .ok (.ifCond .ne (15), 3) from by decide +kernel) rfl
theorem b_LL_lawz_1088 {C : CF} {d : Nat} {σ : HP} {a3 : Nat} {x6 : Int32} {l0 : Option Value} {l1 : Option Value} {l2 : Option Value} {l4 : Option Value} {l5 : Option Value} {l7 : Option Value} (h1 : aty (a3 % 64) = 2) (h2 : inR (0 : Int32) (alen (a3 % 64)) = true) : runF C d m_LL_lawz (1088, [l0, l1, l2, some (.ref a3), l4, l5, some (.int x6), l7], [], σ) = if (lg_cmp (gJ σ a3 (Int32.toNatClampNeg (0 : Int32))) (Int32.toInt64 x6)) = 0 then runF C d m_LL_lawz (1100, [l0, l1, l2, some (.ref a3), l4, l5, some (.int x6), l7], [], σ) else runF C d m_LL_lawz (1098, [l0, l1, l2, some (.ref a3), l4, l5, some (.int x6), l7], [], σ) := by
  refine (r_aloadn 3 (show decode (zb m_LL_lawz) 1088 = .ok (.aload_n 3, 1) from by decide +kernel) rfl).trans ?_
  refine (r_iconst (v := (0 : Int32)) (show decode (zb m_LL_lawz) 1089 = .ok (.iconst (0), 1) from by decide +kernel) (by decide)).trans ?_
  refine (r_lald (show decode (zb m_LL_lawz) 1090 = .ok (.laload, 1) from by decide +kernel) h1 h2).trans ?_
  refine (r_iload 6 (show decode (zb m_LL_lawz) 1091 = .ok (.iload 6, 2) from by decide +kernel) rfl).trans ?_
  refine (r_i2l (show decode (zb m_LL_lawz) 1093 = .ok (.i2l, 1) from by decide +kernel)).trans ?_
  refine (r_lcmp (show decode (zb m_LL_lawz) 1094 = .ok (.lcmp, 1) from by decide +kernel)).trans ?_
  exact r_if_eq 1100 (show decode (zb m_LL_lawz) 1095 = .ok (.ifCond .eq (5), 3) from by decide +kernel) rfl
theorem b_LL_lawz_1098 {C : CF} {d : Nat} {σ : HP} {l0 : Option Value} {l1 : Option Value} {l2 : Option Value} {l3 : Option Value} {l4 : Option Value} {l5 : Option Value} {l6 : Option Value} {l7 : Option Value}  : runF C d m_LL_lawz (1098, [l0, l1, l2, l3, l4, l5, l6, l7], [], σ) = some (.inl (some (.int (0 : Int32))), σ) := by
  refine (r_iconst (v := (0 : Int32)) (show decode (zb m_LL_lawz) 1098 = .ok (.iconst (0), 1) from by decide +kernel) (by decide)).trans ?_
  exact r_bret (show decode (zb m_LL_lawz) 1099 = .ok (.ireturn, 1) from by decide +kernel) rfl (by decide)
theorem b_LL_lawz_1100 {C : CF} {d : Nat} {σ : HP} {l0 : Option Value} {l1 : Option Value} {l2 : Option Value} {l3 : Option Value} {l4 : Option Value} {l5 : Option Value} {l6 : Option Value} {l7 : Option Value}  : runF C d m_LL_lawz (1100, [l0, l1, l2, l3, l4, l5, l6, l7], [], σ) = runF C d m_LL_lawz (2580, [l0, l1, l2, l3, l4, l5, l6, l7], [], σ) := by
  exact r_goto 2580 (show decode (zb m_LL_lawz) 1100 = .ok (.goto (1480), 3) from by decide +kernel) rfl
theorem b_LL_lawz_1103 {C : CF} {d : Nat} {σ : HP} {a1 : Nat} {x4 : Int32} {a3 : Nat} {l2 : Option Value} {l5 : Option Value} {l6 : Option Value} {l7 : Option Value} (h1 : inR (x4 + (1 : Int32)) (hL σ) = true) : runF C d m_LL_lawz (1103, [some (.ref 18), some (.ref a1), l2, some (.ref a3), some (.int x4), l5, l6, l7], [], σ) = bkN C d m_LL_lawz 1111 [some (.ref 18), some (.ref a1), l2, some (.ref a3), some (.int x4), l5, l6, l7] [] (C m_LL_to [.ref a1, .int (gI σ 18 (Int32.toNatClampNeg (x4 + (1 : Int32)))), .ref a3] σ) := by
  refine (r_aloadn 1 (show decode (zb m_LL_lawz) 1103 = .ok (.aload_n 1, 1) from by decide +kernel) rfl).trans ?_
  refine (r_aloadn 0 (show decode (zb m_LL_lawz) 1104 = .ok (.aload_n 0, 1) from by decide +kernel) rfl).trans ?_
  refine (r_iload 4 (show decode (zb m_LL_lawz) 1105 = .ok (.iload 4, 2) from by decide +kernel) rfl).trans ?_
  refine (r_iconst (v := (1 : Int32)) (show decode (zb m_LL_lawz) 1107 = .ok (.iconst (1), 1) from by decide +kernel) (by decide)).trans ?_
  refine (r_iadd (show decode (zb m_LL_lawz) 1108 = .ok (.iadd, 1) from by decide +kernel)).trans ?_
  refine (r_iald18 (show decode (zb m_LL_lawz) 1109 = .ok (.iaload, 1) from by decide +kernel) h1).trans ?_
  refine (r_aloadn 3 (show decode (zb m_LL_lawz) 1110 = .ok (.aload_n 3, 1) from by decide +kernel) rfl).trans ?_
  exact r_stat (args := [.ref a1, .int (gI σ 18 (Int32.toNatClampNeg (x4 + (1 : Int32)))), .ref a3]) (rest := []) (show decode (zb m_LL_lawz) 1111 = .ok (.invokestatic 172, 3) from by decide +kernel) rfl (by decide) rfl rfl
theorem b_LL_lawz_1114 {C : CF} {d : Nat} {σ : HP} {s0 : Int32} {a2 : Nat} {x4 : Int32} {l1 : Option Value} {l3 : Option Value} {l5 : Option Value} {l6 : Option Value} {l7 : Option Value} (h1 : inR (x4 + (1 : Int32)) (hL σ) = true) (h2 : a2 % 64 = 12) : runF C d m_LL_lawz (1114, [some (.ref 18), l1, some (.ref a2), l3, some (.int x4), l5, l6, l7], [.int s0], σ) = bk C d m_LL_lawz 1123 [some (.ref 18), l1, some (.ref a2), l3, some (.int x4), some (.int s0), l6, l7] [] (C m_Mo_to [.ref a2, .int (gI σ 18 (Int32.toNatClampNeg (x4 + (1 : Int32))))] σ) := by
  refine (r_istore 5 (show decode (zb m_LL_lawz) 1114 = .ok (.istore 5, 2) from by decide +kernel) rfl).trans ?_
  refine (r_aloadn 2 (show decode (zb m_LL_lawz) 1116 = .ok (.aload_n 2, 1) from by decide +kernel) rfl).trans ?_
  refine (r_aloadn 0 (show decode (zb m_LL_lawz) 1117 = .ok (.aload_n 0, 1) from by decide +kernel) rfl).trans ?_
  refine (r_iload 4 (show decode (zb m_LL_lawz) 1118 = .ok (.iload 4, 2) from by decide +kernel) rfl).trans ?_
  refine (r_iconst (v := (1 : Int32)) (show decode (zb m_LL_lawz) 1120 = .ok (.iconst (1), 1) from by decide +kernel) (by decide)).trans ?_
  refine (r_iadd (show decode (zb m_LL_lawz) 1121 = .ok (.iadd, 1) from by decide +kernel)).trans ?_
  refine (r_iald18 (show decode (zb m_LL_lawz) 1122 = .ok (.iaload, 1) from by decide +kernel) h1).trans ?_
  exact r_virt (args := [.int (gI σ 18 (Int32.toNatClampNeg (x4 + (1 : Int32))))]) (rest := []) (show decode (zb m_LL_lawz) 1123 = .ok (.invokevirtual 174, 3) from by decide +kernel) rfl rfl rfl h2
theorem b_LL_lawz_1126 {C : CF} {d : Nat} {σ : HP} {s0 : Int32} {a2 : Nat} {l0 : Option Value} {l1 : Option Value} {l3 : Option Value} {l4 : Option Value} {l5 : Option Value} {l6 : Option Value} {l7 : Option Value} (h1 : a2 % 64 = 12) : runF C d m_LL_lawz (1126, [l0, l1, some (.ref a2), l3, l4, l5, l6, l7], [.int s0], σ) = bk C d m_LL_lawz 1129 [l0, l1, some (.ref a2), l3, l4, l5, some (.int s0), l7] [] (C m_Mo_thrown [.ref a2] σ) := by
  refine (r_istore 6 (show decode (zb m_LL_lawz) 1126 = .ok (.istore 6, 2) from by decide +kernel) rfl).trans ?_
  refine (r_aloadn 2 (show decode (zb m_LL_lawz) 1128 = .ok (.aload_n 2, 1) from by decide +kernel) rfl).trans ?_
  exact r_virt (args := []) (rest := []) (show decode (zb m_LL_lawz) 1129 = .ok (.invokevirtual 128, 3) from by decide +kernel) rfl rfl rfl h1
theorem b_LL_lawz_1132 {C : CF} {d : Nat} {σ : HP} {s0 : Int32} {x5 : Int32} {l0 : Option Value} {l1 : Option Value} {l2 : Option Value} {l3 : Option Value} {l4 : Option Value} {l6 : Option Value} {l7 : Option Value}  : runF C d m_LL_lawz (1132, [l0, l1, l2, l3, l4, some (.int x5), l6, l7], [.int s0], σ) = if s0 = x5 then runF C d m_LL_lawz (1139, [l0, l1, l2, l3, l4, some (.int x5), l6, l7], [], σ) else runF C d m_LL_lawz (1137, [l0, l1, l2, l3, l4, some (.int x5), l6, l7], [], σ) := by
  refine (r_iload 5 (show decode (zb m_LL_lawz) 1132 = .ok (.iload 5, 2) from by decide +kernel) rfl).trans ?_
  exact r_icmp_eq 1139 (show decode (zb m_LL_lawz) 1134 = .ok (.if_icmp .eq (5), 3) from by decide +kernel) rfl
theorem b_LL_lawz_1137 {C : CF} {d : Nat} {σ : HP} {l0 : Option Value} {l1 : Option Value} {l2 : Option Value} {l3 : Option Value} {l4 : Option Value} {l5 : Option Value} {l6 : Option Value} {l7 : Option Value}  : runF C d m_LL_lawz (1137, [l0, l1, l2, l3, l4, l5, l6, l7], [], σ) = some (.inl (some (.int (0 : Int32))), σ) := by
  refine (r_iconst (v := (0 : Int32)) (show decode (zb m_LL_lawz) 1137 = .ok (.iconst (0), 1) from by decide +kernel) (by decide)).trans ?_
  exact r_bret (show decode (zb m_LL_lawz) 1138 = .ok (.ireturn, 1) from by decide +kernel) rfl (by decide)
theorem b_LL_lawz_1139 {C : CF} {d : Nat} {σ : HP} {x5 : Int32} {l0 : Option Value} {l1 : Option Value} {l2 : Option Value} {l3 : Option Value} {l4 : Option Value} {l6 : Option Value} {l7 : Option Value}  : runF C d m_LL_lawz (1139, [l0, l1, l2, l3, l4, some (.int x5), l6, l7], [], σ) = if ¬ x5 = 0 then runF C d m_LL_lawz (1156, [l0, l1, l2, l3, l4, some (.int x5), l6, l7], [], σ) else runF C d m_LL_lawz (1144, [l0, l1, l2, l3, l4, some (.int x5), l6, l7], [], σ) := by
  refine (r_iload 5 (show decode (zb m_LL_lawz) 1139 = .ok (.iload 5, 2) from by decide +kernel) rfl).trans ?_
  exact r_if_ne 1156 (show decode (zb m_LL_lawz) 1141 = .ok (.ifCond .ne (15), 3) from by decide +kernel) rfl
theorem b_LL_lawz_1144 {C : CF} {d : Nat} {σ : HP} {a3 : Nat} {x6 : Int32} {l0 : Option Value} {l1 : Option Value} {l2 : Option Value} {l4 : Option Value} {l5 : Option Value} {l7 : Option Value} (h1 : aty (a3 % 64) = 2) (h2 : inR (0 : Int32) (alen (a3 % 64)) = true) : runF C d m_LL_lawz (1144, [l0, l1, l2, some (.ref a3), l4, l5, some (.int x6), l7], [], σ) = if (lg_cmp (gJ σ a3 (Int32.toNatClampNeg (0 : Int32))) (Int32.toInt64 x6)) = 0 then runF C d m_LL_lawz (1156, [l0, l1, l2, some (.ref a3), l4, l5, some (.int x6), l7], [], σ) else runF C d m_LL_lawz (1154, [l0, l1, l2, some (.ref a3), l4, l5, some (.int x6), l7], [], σ) := by
  refine (r_aloadn 3 (show decode (zb m_LL_lawz) 1144 = .ok (.aload_n 3, 1) from by decide +kernel) rfl).trans ?_
  refine (r_iconst (v := (0 : Int32)) (show decode (zb m_LL_lawz) 1145 = .ok (.iconst (0), 1) from by decide +kernel) (by decide)).trans ?_
  refine (r_lald (show decode (zb m_LL_lawz) 1146 = .ok (.laload, 1) from by decide +kernel) h1 h2).trans ?_
  refine (r_iload 6 (show decode (zb m_LL_lawz) 1147 = .ok (.iload 6, 2) from by decide +kernel) rfl).trans ?_
  refine (r_i2l (show decode (zb m_LL_lawz) 1149 = .ok (.i2l, 1) from by decide +kernel)).trans ?_
  refine (r_lcmp (show decode (zb m_LL_lawz) 1150 = .ok (.lcmp, 1) from by decide +kernel)).trans ?_
  exact r_if_eq 1156 (show decode (zb m_LL_lawz) 1151 = .ok (.ifCond .eq (5), 3) from by decide +kernel) rfl
theorem b_LL_lawz_1154 {C : CF} {d : Nat} {σ : HP} {l0 : Option Value} {l1 : Option Value} {l2 : Option Value} {l3 : Option Value} {l4 : Option Value} {l5 : Option Value} {l6 : Option Value} {l7 : Option Value}  : runF C d m_LL_lawz (1154, [l0, l1, l2, l3, l4, l5, l6, l7], [], σ) = some (.inl (some (.int (0 : Int32))), σ) := by
  refine (r_iconst (v := (0 : Int32)) (show decode (zb m_LL_lawz) 1154 = .ok (.iconst (0), 1) from by decide +kernel) (by decide)).trans ?_
  exact r_bret (show decode (zb m_LL_lawz) 1155 = .ok (.ireturn, 1) from by decide +kernel) rfl (by decide)
theorem b_LL_lawz_1156 {C : CF} {d : Nat} {σ : HP} {l0 : Option Value} {l1 : Option Value} {l2 : Option Value} {l3 : Option Value} {l4 : Option Value} {l5 : Option Value} {l6 : Option Value} {l7 : Option Value}  : runF C d m_LL_lawz (1156, [l0, l1, l2, l3, l4, l5, l6, l7], [], σ) = runF C d m_LL_lawz (2580, [l0, l1, l2, l3, l4, l5, l6, l7], [], σ) := by
  exact r_goto 2580 (show decode (zb m_LL_lawz) 1156 = .ok (.goto (1424), 3) from by decide +kernel) rfl
theorem b_LL_lawz_1159 {C : CF} {d : Nat} {σ : HP} {a1 : Nat} {l0 : Option Value} {l2 : Option Value} {l3 : Option Value} {l4 : Option Value} {l5 : Option Value} {l6 : Option Value} {l7 : Option Value} (h1 : a1 % 64 = 11) : runF C d m_LL_lawz (1159, [l0, some (.ref a1), l2, l3, l4, l5, l6, l7], [], σ) = bk C d m_LL_lawz 1160 [l0, some (.ref a1), l2, l3, l4, l5, l6, l7] [] (C m_PL_rides [.ref a1] σ) := by
  refine (r_aloadn 1 (show decode (zb m_LL_lawz) 1159 = .ok (.aload_n 1, 1) from by decide +kernel) rfl).trans ?_
  exact r_virt (args := []) (rest := []) (show decode (zb m_LL_lawz) 1160 = .ok (.invokevirtual 175, 3) from by decide +kernel) rfl rfl rfl h1
theorem b_LL_lawz_1163 {C : CF} {d : Nat} {σ : HP} {s0 : Int32} {a2 : Nat} {l0 : Option Value} {l1 : Option Value} {l3 : Option Value} {l4 : Option Value} {l5 : Option Value} {l6 : Option Value} {l7 : Option Value} (h1 : a2 % 64 = 12) : runF C d m_LL_lawz (1163, [l0, l1, some (.ref a2), l3, l4, l5, l6, l7], [.int s0], σ) = bk C d m_LL_lawz 1164 [l0, l1, some (.ref a2), l3, l4, l5, l6, l7] [.int s0] (C m_Mo_rides [.ref a2] σ) := by
  refine (r_aloadn 2 (show decode (zb m_LL_lawz) 1163 = .ok (.aload_n 2, 1) from by decide +kernel) rfl).trans ?_
  exact r_virt (args := []) (rest := [.int s0]) (show decode (zb m_LL_lawz) 1164 = .ok (.invokevirtual 178, 3) from by decide +kernel) rfl rfl rfl h1
theorem b_LL_lawz_1167 {C : CF} {d : Nat} {σ : HP} {s0 : Int32} {s1 : Int32} {l0 : Option Value} {l1 : Option Value} {l2 : Option Value} {l3 : Option Value} {l4 : Option Value} {l5 : Option Value} {l6 : Option Value} {l7 : Option Value}  : runF C d m_LL_lawz (1167, [l0, l1, l2, l3, l4, l5, l6, l7], [.int s0, .int s1], σ) = if s1 = s0 then runF C d m_LL_lawz (2580, [l0, l1, l2, l3, l4, l5, l6, l7], [], σ) else runF C d m_LL_lawz (1170, [l0, l1, l2, l3, l4, l5, l6, l7], [], σ) := by
  exact r_icmp_eq 2580 (show decode (zb m_LL_lawz) 1167 = .ok (.if_icmp .eq (1413), 3) from by decide +kernel) rfl
theorem b_LL_lawz_1170 {C : CF} {d : Nat} {σ : HP} {l0 : Option Value} {l1 : Option Value} {l2 : Option Value} {l3 : Option Value} {l4 : Option Value} {l5 : Option Value} {l6 : Option Value} {l7 : Option Value}  : runF C d m_LL_lawz (1170, [l0, l1, l2, l3, l4, l5, l6, l7], [], σ) = some (.inl (some (.int (0 : Int32))), σ) := by
  refine (r_iconst (v := (0 : Int32)) (show decode (zb m_LL_lawz) 1170 = .ok (.iconst (0), 1) from by decide +kernel) (by decide)).trans ?_
  exact r_bret (show decode (zb m_LL_lawz) 1171 = .ok (.ireturn, 1) from by decide +kernel) rfl (by decide)
theorem b_LL_lawz_1172 {C : CF} {d : Nat} {σ : HP} {a1 : Nat} {x4 : Int32} {a3 : Nat} {l2 : Option Value} {l5 : Option Value} {l6 : Option Value} {l7 : Option Value} (h1 : inR (x4 + (1 : Int32)) (hL σ) = true) : runF C d m_LL_lawz (1172, [some (.ref 18), some (.ref a1), l2, some (.ref a3), some (.int x4), l5, l6, l7], [], σ) = bkN C d m_LL_lawz 1180 [some (.ref 18), some (.ref a1), l2, some (.ref a3), some (.int x4), l5, l6, l7] [] (C m_LL_couple [.ref a1, .int (gI σ 18 (Int32.toNatClampNeg (x4 + (1 : Int32)))), .ref a3] σ) := by
  refine (r_aloadn 1 (show decode (zb m_LL_lawz) 1172 = .ok (.aload_n 1, 1) from by decide +kernel) rfl).trans ?_
  refine (r_aloadn 0 (show decode (zb m_LL_lawz) 1173 = .ok (.aload_n 0, 1) from by decide +kernel) rfl).trans ?_
  refine (r_iload 4 (show decode (zb m_LL_lawz) 1174 = .ok (.iload 4, 2) from by decide +kernel) rfl).trans ?_
  refine (r_iconst (v := (1 : Int32)) (show decode (zb m_LL_lawz) 1176 = .ok (.iconst (1), 1) from by decide +kernel) (by decide)).trans ?_
  refine (r_iadd (show decode (zb m_LL_lawz) 1177 = .ok (.iadd, 1) from by decide +kernel)).trans ?_
  refine (r_iald18 (show decode (zb m_LL_lawz) 1178 = .ok (.iaload, 1) from by decide +kernel) h1).trans ?_
  refine (r_aloadn 3 (show decode (zb m_LL_lawz) 1179 = .ok (.aload_n 3, 1) from by decide +kernel) rfl).trans ?_
  exact r_stat (args := [.ref a1, .int (gI σ 18 (Int32.toNatClampNeg (x4 + (1 : Int32)))), .ref a3]) (rest := []) (show decode (zb m_LL_lawz) 1180 = .ok (.invokestatic 179, 3) from by decide +kernel) rfl (by decide) rfl rfl
theorem b_LL_lawz_1183 {C : CF} {d : Nat} {σ : HP} {s0 : Int32} {a2 : Nat} {x4 : Int32} {l1 : Option Value} {l3 : Option Value} {l5 : Option Value} {l6 : Option Value} {l7 : Option Value} (h1 : inR (x4 + (1 : Int32)) (hL σ) = true) (h2 : a2 % 64 = 12) : runF C d m_LL_lawz (1183, [some (.ref 18), l1, some (.ref a2), l3, some (.int x4), l5, l6, l7], [.int s0], σ) = bk C d m_LL_lawz 1192 [some (.ref 18), l1, some (.ref a2), l3, some (.int x4), some (.int s0), l6, l7] [] (C m_Mo_couple [.ref a2, .int (gI σ 18 (Int32.toNatClampNeg (x4 + (1 : Int32))))] σ) := by
  refine (r_istore 5 (show decode (zb m_LL_lawz) 1183 = .ok (.istore 5, 2) from by decide +kernel) rfl).trans ?_
  refine (r_aloadn 2 (show decode (zb m_LL_lawz) 1185 = .ok (.aload_n 2, 1) from by decide +kernel) rfl).trans ?_
  refine (r_aloadn 0 (show decode (zb m_LL_lawz) 1186 = .ok (.aload_n 0, 1) from by decide +kernel) rfl).trans ?_
  refine (r_iload 4 (show decode (zb m_LL_lawz) 1187 = .ok (.iload 4, 2) from by decide +kernel) rfl).trans ?_
  refine (r_iconst (v := (1 : Int32)) (show decode (zb m_LL_lawz) 1189 = .ok (.iconst (1), 1) from by decide +kernel) (by decide)).trans ?_
  refine (r_iadd (show decode (zb m_LL_lawz) 1190 = .ok (.iadd, 1) from by decide +kernel)).trans ?_
  refine (r_iald18 (show decode (zb m_LL_lawz) 1191 = .ok (.iaload, 1) from by decide +kernel) h1).trans ?_
  exact r_virt (args := [.int (gI σ 18 (Int32.toNatClampNeg (x4 + (1 : Int32))))]) (rest := []) (show decode (zb m_LL_lawz) 1192 = .ok (.invokevirtual 181, 3) from by decide +kernel) rfl rfl rfl h2
theorem b_LL_lawz_1195 {C : CF} {d : Nat} {σ : HP} {s0 : Int32} {a2 : Nat} {l0 : Option Value} {l1 : Option Value} {l3 : Option Value} {l4 : Option Value} {l5 : Option Value} {l6 : Option Value} {l7 : Option Value} (h1 : a2 % 64 = 12) : runF C d m_LL_lawz (1195, [l0, l1, some (.ref a2), l3, l4, l5, l6, l7], [.int s0], σ) = bk C d m_LL_lawz 1198 [l0, l1, some (.ref a2), l3, l4, l5, some (.int s0), l7] [] (C m_Mo_thrown [.ref a2] σ) := by
  refine (r_istore 6 (show decode (zb m_LL_lawz) 1195 = .ok (.istore 6, 2) from by decide +kernel) rfl).trans ?_
  refine (r_aloadn 2 (show decode (zb m_LL_lawz) 1197 = .ok (.aload_n 2, 1) from by decide +kernel) rfl).trans ?_
  exact r_virt (args := []) (rest := []) (show decode (zb m_LL_lawz) 1198 = .ok (.invokevirtual 128, 3) from by decide +kernel) rfl rfl rfl h1
theorem b_LL_lawz_1201 {C : CF} {d : Nat} {σ : HP} {s0 : Int32} {x5 : Int32} {l0 : Option Value} {l1 : Option Value} {l2 : Option Value} {l3 : Option Value} {l4 : Option Value} {l6 : Option Value} {l7 : Option Value}  : runF C d m_LL_lawz (1201, [l0, l1, l2, l3, l4, some (.int x5), l6, l7], [.int s0], σ) = if s0 = x5 then runF C d m_LL_lawz (1208, [l0, l1, l2, l3, l4, some (.int x5), l6, l7], [], σ) else runF C d m_LL_lawz (1206, [l0, l1, l2, l3, l4, some (.int x5), l6, l7], [], σ) := by
  refine (r_iload 5 (show decode (zb m_LL_lawz) 1201 = .ok (.iload 5, 2) from by decide +kernel) rfl).trans ?_
  exact r_icmp_eq 1208 (show decode (zb m_LL_lawz) 1203 = .ok (.if_icmp .eq (5), 3) from by decide +kernel) rfl
theorem b_LL_lawz_1206 {C : CF} {d : Nat} {σ : HP} {l0 : Option Value} {l1 : Option Value} {l2 : Option Value} {l3 : Option Value} {l4 : Option Value} {l5 : Option Value} {l6 : Option Value} {l7 : Option Value}  : runF C d m_LL_lawz (1206, [l0, l1, l2, l3, l4, l5, l6, l7], [], σ) = some (.inl (some (.int (0 : Int32))), σ) := by
  refine (r_iconst (v := (0 : Int32)) (show decode (zb m_LL_lawz) 1206 = .ok (.iconst (0), 1) from by decide +kernel) (by decide)).trans ?_
  exact r_bret (show decode (zb m_LL_lawz) 1207 = .ok (.ireturn, 1) from by decide +kernel) rfl (by decide)
theorem b_LL_lawz_1208 {C : CF} {d : Nat} {σ : HP} {x5 : Int32} {l0 : Option Value} {l1 : Option Value} {l2 : Option Value} {l3 : Option Value} {l4 : Option Value} {l6 : Option Value} {l7 : Option Value}  : runF C d m_LL_lawz (1208, [l0, l1, l2, l3, l4, some (.int x5), l6, l7], [], σ) = if ¬ x5 = 0 then runF C d m_LL_lawz (1225, [l0, l1, l2, l3, l4, some (.int x5), l6, l7], [], σ) else runF C d m_LL_lawz (1213, [l0, l1, l2, l3, l4, some (.int x5), l6, l7], [], σ) := by
  refine (r_iload 5 (show decode (zb m_LL_lawz) 1208 = .ok (.iload 5, 2) from by decide +kernel) rfl).trans ?_
  exact r_if_ne 1225 (show decode (zb m_LL_lawz) 1210 = .ok (.ifCond .ne (15), 3) from by decide +kernel) rfl
theorem b_LL_lawz_1213 {C : CF} {d : Nat} {σ : HP} {a3 : Nat} {x6 : Int32} {l0 : Option Value} {l1 : Option Value} {l2 : Option Value} {l4 : Option Value} {l5 : Option Value} {l7 : Option Value} (h1 : aty (a3 % 64) = 2) (h2 : inR (0 : Int32) (alen (a3 % 64)) = true) : runF C d m_LL_lawz (1213, [l0, l1, l2, some (.ref a3), l4, l5, some (.int x6), l7], [], σ) = if (lg_cmp (gJ σ a3 (Int32.toNatClampNeg (0 : Int32))) (Int32.toInt64 x6)) = 0 then runF C d m_LL_lawz (1225, [l0, l1, l2, some (.ref a3), l4, l5, some (.int x6), l7], [], σ) else runF C d m_LL_lawz (1223, [l0, l1, l2, some (.ref a3), l4, l5, some (.int x6), l7], [], σ) := by
  refine (r_aloadn 3 (show decode (zb m_LL_lawz) 1213 = .ok (.aload_n 3, 1) from by decide +kernel) rfl).trans ?_
  refine (r_iconst (v := (0 : Int32)) (show decode (zb m_LL_lawz) 1214 = .ok (.iconst (0), 1) from by decide +kernel) (by decide)).trans ?_
  refine (r_lald (show decode (zb m_LL_lawz) 1215 = .ok (.laload, 1) from by decide +kernel) h1 h2).trans ?_
  refine (r_iload 6 (show decode (zb m_LL_lawz) 1216 = .ok (.iload 6, 2) from by decide +kernel) rfl).trans ?_
  refine (r_i2l (show decode (zb m_LL_lawz) 1218 = .ok (.i2l, 1) from by decide +kernel)).trans ?_
  refine (r_lcmp (show decode (zb m_LL_lawz) 1219 = .ok (.lcmp, 1) from by decide +kernel)).trans ?_
  exact r_if_eq 1225 (show decode (zb m_LL_lawz) 1220 = .ok (.ifCond .eq (5), 3) from by decide +kernel) rfl
theorem b_LL_lawz_1223 {C : CF} {d : Nat} {σ : HP} {l0 : Option Value} {l1 : Option Value} {l2 : Option Value} {l3 : Option Value} {l4 : Option Value} {l5 : Option Value} {l6 : Option Value} {l7 : Option Value}  : runF C d m_LL_lawz (1223, [l0, l1, l2, l3, l4, l5, l6, l7], [], σ) = some (.inl (some (.int (0 : Int32))), σ) := by
  refine (r_iconst (v := (0 : Int32)) (show decode (zb m_LL_lawz) 1223 = .ok (.iconst (0), 1) from by decide +kernel) (by decide)).trans ?_
  exact r_bret (show decode (zb m_LL_lawz) 1224 = .ok (.ireturn, 1) from by decide +kernel) rfl (by decide)
theorem b_LL_lawz_1225 {C : CF} {d : Nat} {σ : HP} {l0 : Option Value} {l1 : Option Value} {l2 : Option Value} {l3 : Option Value} {l4 : Option Value} {l5 : Option Value} {l6 : Option Value} {l7 : Option Value}  : runF C d m_LL_lawz (1225, [l0, l1, l2, l3, l4, l5, l6, l7], [], σ) = runF C d m_LL_lawz (2580, [l0, l1, l2, l3, l4, l5, l6, l7], [], σ) := by
  exact r_goto 2580 (show decode (zb m_LL_lawz) 1225 = .ok (.goto (1355), 3) from by decide +kernel) rfl
theorem b_LL_lawz_1228 {C : CF} {d : Nat} {σ : HP} {a1 : Nat} {x4 : Int32} {a3 : Nat} {l2 : Option Value} {l5 : Option Value} {l6 : Option Value} {l7 : Option Value} (h1 : inR (x4 + (1 : Int32)) (hL σ) = true) : runF C d m_LL_lawz (1228, [some (.ref 18), some (.ref a1), l2, some (.ref a3), some (.int x4), l5, l6, l7], [], σ) = bkN C d m_LL_lawz 1236 [some (.ref 18), some (.ref a1), l2, some (.ref a3), some (.int x4), l5, l6, l7] [] (C m_LL_meet [.ref a1, .int (gI σ 18 (Int32.toNatClampNeg (x4 + (1 : Int32)))), .ref a3] σ) := by
  refine (r_aloadn 1 (show decode (zb m_LL_lawz) 1228 = .ok (.aload_n 1, 1) from by decide +kernel) rfl).trans ?_
  refine (r_aloadn 0 (show decode (zb m_LL_lawz) 1229 = .ok (.aload_n 0, 1) from by decide +kernel) rfl).trans ?_
  refine (r_iload 4 (show decode (zb m_LL_lawz) 1230 = .ok (.iload 4, 2) from by decide +kernel) rfl).trans ?_
  refine (r_iconst (v := (1 : Int32)) (show decode (zb m_LL_lawz) 1232 = .ok (.iconst (1), 1) from by decide +kernel) (by decide)).trans ?_
  refine (r_iadd (show decode (zb m_LL_lawz) 1233 = .ok (.iadd, 1) from by decide +kernel)).trans ?_
  refine (r_iald18 (show decode (zb m_LL_lawz) 1234 = .ok (.iaload, 1) from by decide +kernel) h1).trans ?_
  refine (r_aloadn 3 (show decode (zb m_LL_lawz) 1235 = .ok (.aload_n 3, 1) from by decide +kernel) rfl).trans ?_
  exact r_stat (args := [.ref a1, .int (gI σ 18 (Int32.toNatClampNeg (x4 + (1 : Int32)))), .ref a3]) (rest := []) (show decode (zb m_LL_lawz) 1236 = .ok (.invokestatic 182, 3) from by decide +kernel) rfl (by decide) rfl rfl
theorem b_LL_lawz_1239 {C : CF} {d : Nat} {σ : HP} {s0 : Int32} {a2 : Nat} {x4 : Int32} {l1 : Option Value} {l3 : Option Value} {l5 : Option Value} {l6 : Option Value} {l7 : Option Value} (h1 : inR (x4 + (1 : Int32)) (hL σ) = true) (h2 : a2 % 64 = 12) : runF C d m_LL_lawz (1239, [some (.ref 18), l1, some (.ref a2), l3, some (.int x4), l5, l6, l7], [.int s0], σ) = bk C d m_LL_lawz 1248 [some (.ref 18), l1, some (.ref a2), l3, some (.int x4), some (.int s0), l6, l7] [] (C m_Mo_meet [.ref a2, .int (gI σ 18 (Int32.toNatClampNeg (x4 + (1 : Int32))))] σ) := by
  refine (r_istore 5 (show decode (zb m_LL_lawz) 1239 = .ok (.istore 5, 2) from by decide +kernel) rfl).trans ?_
  refine (r_aloadn 2 (show decode (zb m_LL_lawz) 1241 = .ok (.aload_n 2, 1) from by decide +kernel) rfl).trans ?_
  refine (r_aloadn 0 (show decode (zb m_LL_lawz) 1242 = .ok (.aload_n 0, 1) from by decide +kernel) rfl).trans ?_
  refine (r_iload 4 (show decode (zb m_LL_lawz) 1243 = .ok (.iload 4, 2) from by decide +kernel) rfl).trans ?_
  refine (r_iconst (v := (1 : Int32)) (show decode (zb m_LL_lawz) 1245 = .ok (.iconst (1), 1) from by decide +kernel) (by decide)).trans ?_
  refine (r_iadd (show decode (zb m_LL_lawz) 1246 = .ok (.iadd, 1) from by decide +kernel)).trans ?_
  refine (r_iald18 (show decode (zb m_LL_lawz) 1247 = .ok (.iaload, 1) from by decide +kernel) h1).trans ?_
  exact r_virt (args := [.int (gI σ 18 (Int32.toNatClampNeg (x4 + (1 : Int32))))]) (rest := []) (show decode (zb m_LL_lawz) 1248 = .ok (.invokevirtual 184, 3) from by decide +kernel) rfl rfl rfl h2
theorem b_LL_lawz_1251 {C : CF} {d : Nat} {σ : HP} {s0 : Int32} {a2 : Nat} {l0 : Option Value} {l1 : Option Value} {l3 : Option Value} {l4 : Option Value} {l5 : Option Value} {l6 : Option Value} {l7 : Option Value} (h1 : a2 % 64 = 12) : runF C d m_LL_lawz (1251, [l0, l1, some (.ref a2), l3, l4, l5, l6, l7], [.int s0], σ) = bk C d m_LL_lawz 1254 [l0, l1, some (.ref a2), l3, l4, l5, some (.int s0), l7] [] (C m_Mo_thrown [.ref a2] σ) := by
  refine (r_istore 6 (show decode (zb m_LL_lawz) 1251 = .ok (.istore 6, 2) from by decide +kernel) rfl).trans ?_
  refine (r_aloadn 2 (show decode (zb m_LL_lawz) 1253 = .ok (.aload_n 2, 1) from by decide +kernel) rfl).trans ?_
  exact r_virt (args := []) (rest := []) (show decode (zb m_LL_lawz) 1254 = .ok (.invokevirtual 128, 3) from by decide +kernel) rfl rfl rfl h1
theorem b_LL_lawz_1257 {C : CF} {d : Nat} {σ : HP} {s0 : Int32} {x5 : Int32} {l0 : Option Value} {l1 : Option Value} {l2 : Option Value} {l3 : Option Value} {l4 : Option Value} {l6 : Option Value} {l7 : Option Value}  : runF C d m_LL_lawz (1257, [l0, l1, l2, l3, l4, some (.int x5), l6, l7], [.int s0], σ) = if s0 = x5 then runF C d m_LL_lawz (1264, [l0, l1, l2, l3, l4, some (.int x5), l6, l7], [], σ) else runF C d m_LL_lawz (1262, [l0, l1, l2, l3, l4, some (.int x5), l6, l7], [], σ) := by
  refine (r_iload 5 (show decode (zb m_LL_lawz) 1257 = .ok (.iload 5, 2) from by decide +kernel) rfl).trans ?_
  exact r_icmp_eq 1264 (show decode (zb m_LL_lawz) 1259 = .ok (.if_icmp .eq (5), 3) from by decide +kernel) rfl
theorem b_LL_lawz_1262 {C : CF} {d : Nat} {σ : HP} {l0 : Option Value} {l1 : Option Value} {l2 : Option Value} {l3 : Option Value} {l4 : Option Value} {l5 : Option Value} {l6 : Option Value} {l7 : Option Value}  : runF C d m_LL_lawz (1262, [l0, l1, l2, l3, l4, l5, l6, l7], [], σ) = some (.inl (some (.int (0 : Int32))), σ) := by
  refine (r_iconst (v := (0 : Int32)) (show decode (zb m_LL_lawz) 1262 = .ok (.iconst (0), 1) from by decide +kernel) (by decide)).trans ?_
  exact r_bret (show decode (zb m_LL_lawz) 1263 = .ok (.ireturn, 1) from by decide +kernel) rfl (by decide)
theorem b_LL_lawz_1264 {C : CF} {d : Nat} {σ : HP} {x5 : Int32} {l0 : Option Value} {l1 : Option Value} {l2 : Option Value} {l3 : Option Value} {l4 : Option Value} {l6 : Option Value} {l7 : Option Value}  : runF C d m_LL_lawz (1264, [l0, l1, l2, l3, l4, some (.int x5), l6, l7], [], σ) = if ¬ x5 = 0 then runF C d m_LL_lawz (1281, [l0, l1, l2, l3, l4, some (.int x5), l6, l7], [], σ) else runF C d m_LL_lawz (1269, [l0, l1, l2, l3, l4, some (.int x5), l6, l7], [], σ) := by
  refine (r_iload 5 (show decode (zb m_LL_lawz) 1264 = .ok (.iload 5, 2) from by decide +kernel) rfl).trans ?_
  exact r_if_ne 1281 (show decode (zb m_LL_lawz) 1266 = .ok (.ifCond .ne (15), 3) from by decide +kernel) rfl
theorem b_LL_lawz_1269 {C : CF} {d : Nat} {σ : HP} {a3 : Nat} {x6 : Int32} {l0 : Option Value} {l1 : Option Value} {l2 : Option Value} {l4 : Option Value} {l5 : Option Value} {l7 : Option Value} (h1 : aty (a3 % 64) = 2) (h2 : inR (0 : Int32) (alen (a3 % 64)) = true) : runF C d m_LL_lawz (1269, [l0, l1, l2, some (.ref a3), l4, l5, some (.int x6), l7], [], σ) = if (lg_cmp (gJ σ a3 (Int32.toNatClampNeg (0 : Int32))) (Int32.toInt64 x6)) = 0 then runF C d m_LL_lawz (1281, [l0, l1, l2, some (.ref a3), l4, l5, some (.int x6), l7], [], σ) else runF C d m_LL_lawz (1279, [l0, l1, l2, some (.ref a3), l4, l5, some (.int x6), l7], [], σ) := by
  refine (r_aloadn 3 (show decode (zb m_LL_lawz) 1269 = .ok (.aload_n 3, 1) from by decide +kernel) rfl).trans ?_
  refine (r_iconst (v := (0 : Int32)) (show decode (zb m_LL_lawz) 1270 = .ok (.iconst (0), 1) from by decide +kernel) (by decide)).trans ?_
  refine (r_lald (show decode (zb m_LL_lawz) 1271 = .ok (.laload, 1) from by decide +kernel) h1 h2).trans ?_
  refine (r_iload 6 (show decode (zb m_LL_lawz) 1272 = .ok (.iload 6, 2) from by decide +kernel) rfl).trans ?_
  refine (r_i2l (show decode (zb m_LL_lawz) 1274 = .ok (.i2l, 1) from by decide +kernel)).trans ?_
  refine (r_lcmp (show decode (zb m_LL_lawz) 1275 = .ok (.lcmp, 1) from by decide +kernel)).trans ?_
  exact r_if_eq 1281 (show decode (zb m_LL_lawz) 1276 = .ok (.ifCond .eq (5), 3) from by decide +kernel) rfl
theorem b_LL_lawz_1279 {C : CF} {d : Nat} {σ : HP} {l0 : Option Value} {l1 : Option Value} {l2 : Option Value} {l3 : Option Value} {l4 : Option Value} {l5 : Option Value} {l6 : Option Value} {l7 : Option Value}  : runF C d m_LL_lawz (1279, [l0, l1, l2, l3, l4, l5, l6, l7], [], σ) = some (.inl (some (.int (0 : Int32))), σ) := by
  refine (r_iconst (v := (0 : Int32)) (show decode (zb m_LL_lawz) 1279 = .ok (.iconst (0), 1) from by decide +kernel) (by decide)).trans ?_
  exact r_bret (show decode (zb m_LL_lawz) 1280 = .ok (.ireturn, 1) from by decide +kernel) rfl (by decide)
theorem b_LL_lawz_1281 {C : CF} {d : Nat} {σ : HP} {l0 : Option Value} {l1 : Option Value} {l2 : Option Value} {l3 : Option Value} {l4 : Option Value} {l5 : Option Value} {l6 : Option Value} {l7 : Option Value}  : runF C d m_LL_lawz (1281, [l0, l1, l2, l3, l4, l5, l6, l7], [], σ) = runF C d m_LL_lawz (2580, [l0, l1, l2, l3, l4, l5, l6, l7], [], σ) := by
  exact r_goto 2580 (show decode (zb m_LL_lawz) 1281 = .ok (.goto (1299), 3) from by decide +kernel) rfl
theorem b_LL_lawz_1284 {C : CF} {d : Nat} {σ : HP} {a1 : Nat} {x4 : Int32} {a3 : Nat} {l2 : Option Value} {l5 : Option Value} {l6 : Option Value} {l7 : Option Value} (h1 : inR (x4 + (1 : Int32)) (hL σ) = true) : runF C d m_LL_lawz (1284, [some (.ref 18), some (.ref a1), l2, some (.ref a3), some (.int x4), l5, l6, l7], [], σ) = bkN C d m_LL_lawz 1292 [some (.ref 18), some (.ref a1), l2, some (.ref a3), some (.int x4), l5, l6, l7] [] (C m_LL_cheapest [.ref a1, .int (gI σ 18 (Int32.toNatClampNeg (x4 + (1 : Int32)))), .ref a3] σ) := by
  refine (r_aloadn 1 (show decode (zb m_LL_lawz) 1284 = .ok (.aload_n 1, 1) from by decide +kernel) rfl).trans ?_
  refine (r_aloadn 0 (show decode (zb m_LL_lawz) 1285 = .ok (.aload_n 0, 1) from by decide +kernel) rfl).trans ?_
  refine (r_iload 4 (show decode (zb m_LL_lawz) 1286 = .ok (.iload 4, 2) from by decide +kernel) rfl).trans ?_
  refine (r_iconst (v := (1 : Int32)) (show decode (zb m_LL_lawz) 1288 = .ok (.iconst (1), 1) from by decide +kernel) (by decide)).trans ?_
  refine (r_iadd (show decode (zb m_LL_lawz) 1289 = .ok (.iadd, 1) from by decide +kernel)).trans ?_
  refine (r_iald18 (show decode (zb m_LL_lawz) 1290 = .ok (.iaload, 1) from by decide +kernel) h1).trans ?_
  refine (r_aloadn 3 (show decode (zb m_LL_lawz) 1291 = .ok (.aload_n 3, 1) from by decide +kernel) rfl).trans ?_
  exact r_stat (args := [.ref a1, .int (gI σ 18 (Int32.toNatClampNeg (x4 + (1 : Int32)))), .ref a3]) (rest := []) (show decode (zb m_LL_lawz) 1292 = .ok (.invokestatic 185, 3) from by decide +kernel) rfl (by decide) rfl rfl
theorem b_LL_lawz_1295 {C : CF} {d : Nat} {σ : HP} {s0 : Int32} {a2 : Nat} {x4 : Int32} {l1 : Option Value} {l3 : Option Value} {l5 : Option Value} {l6 : Option Value} {l7 : Option Value} (h1 : inR (x4 + (1 : Int32)) (hL σ) = true) (h2 : a2 % 64 = 12) : runF C d m_LL_lawz (1295, [some (.ref 18), l1, some (.ref a2), l3, some (.int x4), l5, l6, l7], [.int s0], σ) = bk C d m_LL_lawz 1304 [some (.ref 18), l1, some (.ref a2), l3, some (.int x4), some (.int s0), l6, l7] [] (C m_Mo_cheapest [.ref a2, .int (gI σ 18 (Int32.toNatClampNeg (x4 + (1 : Int32))))] σ) := by
  refine (r_istore 5 (show decode (zb m_LL_lawz) 1295 = .ok (.istore 5, 2) from by decide +kernel) rfl).trans ?_
  refine (r_aloadn 2 (show decode (zb m_LL_lawz) 1297 = .ok (.aload_n 2, 1) from by decide +kernel) rfl).trans ?_
  refine (r_aloadn 0 (show decode (zb m_LL_lawz) 1298 = .ok (.aload_n 0, 1) from by decide +kernel) rfl).trans ?_
  refine (r_iload 4 (show decode (zb m_LL_lawz) 1299 = .ok (.iload 4, 2) from by decide +kernel) rfl).trans ?_
  refine (r_iconst (v := (1 : Int32)) (show decode (zb m_LL_lawz) 1301 = .ok (.iconst (1), 1) from by decide +kernel) (by decide)).trans ?_
  refine (r_iadd (show decode (zb m_LL_lawz) 1302 = .ok (.iadd, 1) from by decide +kernel)).trans ?_
  refine (r_iald18 (show decode (zb m_LL_lawz) 1303 = .ok (.iaload, 1) from by decide +kernel) h1).trans ?_
  exact r_virt (args := [.int (gI σ 18 (Int32.toNatClampNeg (x4 + (1 : Int32))))]) (rest := []) (show decode (zb m_LL_lawz) 1304 = .ok (.invokevirtual 187, 3) from by decide +kernel) rfl rfl rfl h2
theorem b_LL_lawz_1307 {C : CF} {d : Nat} {σ : HP} {s0 : Int32} {a2 : Nat} {l0 : Option Value} {l1 : Option Value} {l3 : Option Value} {l4 : Option Value} {l5 : Option Value} {l6 : Option Value} {l7 : Option Value} (h1 : a2 % 64 = 12) : runF C d m_LL_lawz (1307, [l0, l1, some (.ref a2), l3, l4, l5, l6, l7], [.int s0], σ) = bk C d m_LL_lawz 1310 [l0, l1, some (.ref a2), l3, l4, l5, some (.int s0), l7] [] (C m_Mo_thrown [.ref a2] σ) := by
  refine (r_istore 6 (show decode (zb m_LL_lawz) 1307 = .ok (.istore 6, 2) from by decide +kernel) rfl).trans ?_
  refine (r_aloadn 2 (show decode (zb m_LL_lawz) 1309 = .ok (.aload_n 2, 1) from by decide +kernel) rfl).trans ?_
  exact r_virt (args := []) (rest := []) (show decode (zb m_LL_lawz) 1310 = .ok (.invokevirtual 128, 3) from by decide +kernel) rfl rfl rfl h1
theorem b_LL_lawz_1313 {C : CF} {d : Nat} {σ : HP} {s0 : Int32} {x5 : Int32} {l0 : Option Value} {l1 : Option Value} {l2 : Option Value} {l3 : Option Value} {l4 : Option Value} {l6 : Option Value} {l7 : Option Value}  : runF C d m_LL_lawz (1313, [l0, l1, l2, l3, l4, some (.int x5), l6, l7], [.int s0], σ) = if s0 = x5 then runF C d m_LL_lawz (1320, [l0, l1, l2, l3, l4, some (.int x5), l6, l7], [], σ) else runF C d m_LL_lawz (1318, [l0, l1, l2, l3, l4, some (.int x5), l6, l7], [], σ) := by
  refine (r_iload 5 (show decode (zb m_LL_lawz) 1313 = .ok (.iload 5, 2) from by decide +kernel) rfl).trans ?_
  exact r_icmp_eq 1320 (show decode (zb m_LL_lawz) 1315 = .ok (.if_icmp .eq (5), 3) from by decide +kernel) rfl
theorem b_LL_lawz_1318 {C : CF} {d : Nat} {σ : HP} {l0 : Option Value} {l1 : Option Value} {l2 : Option Value} {l3 : Option Value} {l4 : Option Value} {l5 : Option Value} {l6 : Option Value} {l7 : Option Value}  : runF C d m_LL_lawz (1318, [l0, l1, l2, l3, l4, l5, l6, l7], [], σ) = some (.inl (some (.int (0 : Int32))), σ) := by
  refine (r_iconst (v := (0 : Int32)) (show decode (zb m_LL_lawz) 1318 = .ok (.iconst (0), 1) from by decide +kernel) (by decide)).trans ?_
  exact r_bret (show decode (zb m_LL_lawz) 1319 = .ok (.ireturn, 1) from by decide +kernel) rfl (by decide)
theorem b_LL_lawz_1320 {C : CF} {d : Nat} {σ : HP} {x5 : Int32} {l0 : Option Value} {l1 : Option Value} {l2 : Option Value} {l3 : Option Value} {l4 : Option Value} {l6 : Option Value} {l7 : Option Value}  : runF C d m_LL_lawz (1320, [l0, l1, l2, l3, l4, some (.int x5), l6, l7], [], σ) = if ¬ x5 = 0 then runF C d m_LL_lawz (1337, [l0, l1, l2, l3, l4, some (.int x5), l6, l7], [], σ) else runF C d m_LL_lawz (1325, [l0, l1, l2, l3, l4, some (.int x5), l6, l7], [], σ) := by
  refine (r_iload 5 (show decode (zb m_LL_lawz) 1320 = .ok (.iload 5, 2) from by decide +kernel) rfl).trans ?_
  exact r_if_ne 1337 (show decode (zb m_LL_lawz) 1322 = .ok (.ifCond .ne (15), 3) from by decide +kernel) rfl
theorem b_LL_lawz_1325 {C : CF} {d : Nat} {σ : HP} {a3 : Nat} {x6 : Int32} {l0 : Option Value} {l1 : Option Value} {l2 : Option Value} {l4 : Option Value} {l5 : Option Value} {l7 : Option Value} (h1 : aty (a3 % 64) = 2) (h2 : inR (0 : Int32) (alen (a3 % 64)) = true) : runF C d m_LL_lawz (1325, [l0, l1, l2, some (.ref a3), l4, l5, some (.int x6), l7], [], σ) = if (lg_cmp (gJ σ a3 (Int32.toNatClampNeg (0 : Int32))) (Int32.toInt64 x6)) = 0 then runF C d m_LL_lawz (1337, [l0, l1, l2, some (.ref a3), l4, l5, some (.int x6), l7], [], σ) else runF C d m_LL_lawz (1335, [l0, l1, l2, some (.ref a3), l4, l5, some (.int x6), l7], [], σ) := by
  refine (r_aloadn 3 (show decode (zb m_LL_lawz) 1325 = .ok (.aload_n 3, 1) from by decide +kernel) rfl).trans ?_
  refine (r_iconst (v := (0 : Int32)) (show decode (zb m_LL_lawz) 1326 = .ok (.iconst (0), 1) from by decide +kernel) (by decide)).trans ?_
  refine (r_lald (show decode (zb m_LL_lawz) 1327 = .ok (.laload, 1) from by decide +kernel) h1 h2).trans ?_
  refine (r_iload 6 (show decode (zb m_LL_lawz) 1328 = .ok (.iload 6, 2) from by decide +kernel) rfl).trans ?_
  refine (r_i2l (show decode (zb m_LL_lawz) 1330 = .ok (.i2l, 1) from by decide +kernel)).trans ?_
  refine (r_lcmp (show decode (zb m_LL_lawz) 1331 = .ok (.lcmp, 1) from by decide +kernel)).trans ?_
  exact r_if_eq 1337 (show decode (zb m_LL_lawz) 1332 = .ok (.ifCond .eq (5), 3) from by decide +kernel) rfl
theorem b_LL_lawz_1335 {C : CF} {d : Nat} {σ : HP} {l0 : Option Value} {l1 : Option Value} {l2 : Option Value} {l3 : Option Value} {l4 : Option Value} {l5 : Option Value} {l6 : Option Value} {l7 : Option Value}  : runF C d m_LL_lawz (1335, [l0, l1, l2, l3, l4, l5, l6, l7], [], σ) = some (.inl (some (.int (0 : Int32))), σ) := by
  refine (r_iconst (v := (0 : Int32)) (show decode (zb m_LL_lawz) 1335 = .ok (.iconst (0), 1) from by decide +kernel) (by decide)).trans ?_
  exact r_bret (show decode (zb m_LL_lawz) 1336 = .ok (.ireturn, 1) from by decide +kernel) rfl (by decide)
theorem b_LL_lawz_1337 {C : CF} {d : Nat} {σ : HP} {l0 : Option Value} {l1 : Option Value} {l2 : Option Value} {l3 : Option Value} {l4 : Option Value} {l5 : Option Value} {l6 : Option Value} {l7 : Option Value}  : runF C d m_LL_lawz (1337, [l0, l1, l2, l3, l4, l5, l6, l7], [], σ) = runF C d m_LL_lawz (2580, [l0, l1, l2, l3, l4, l5, l6, l7], [], σ) := by
  exact r_goto 2580 (show decode (zb m_LL_lawz) 1337 = .ok (.goto (1243), 3) from by decide +kernel) rfl
theorem b_LL_lawz_1340 {C : CF} {d : Nat} {σ : HP} {a1 : Nat} {x4 : Int32} {a3 : Nat} {l2 : Option Value} {l5 : Option Value} {l6 : Option Value} {l7 : Option Value} (h1 : inR (x4 + (1 : Int32)) (hL σ) = true) : runF C d m_LL_lawz (1340, [some (.ref 18), some (.ref a1), l2, some (.ref a3), some (.int x4), l5, l6, l7], [], σ) = bkN C d m_LL_lawz 1348 [some (.ref 18), some (.ref a1), l2, some (.ref a3), some (.int x4), l5, l6, l7] [] (C m_LL_fits [.ref a1, .int (gI σ 18 (Int32.toNatClampNeg (x4 + (1 : Int32)))), .ref a3] σ) := by
  refine (r_aloadn 1 (show decode (zb m_LL_lawz) 1340 = .ok (.aload_n 1, 1) from by decide +kernel) rfl).trans ?_
  refine (r_aloadn 0 (show decode (zb m_LL_lawz) 1341 = .ok (.aload_n 0, 1) from by decide +kernel) rfl).trans ?_
  refine (r_iload 4 (show decode (zb m_LL_lawz) 1342 = .ok (.iload 4, 2) from by decide +kernel) rfl).trans ?_
  refine (r_iconst (v := (1 : Int32)) (show decode (zb m_LL_lawz) 1344 = .ok (.iconst (1), 1) from by decide +kernel) (by decide)).trans ?_
  refine (r_iadd (show decode (zb m_LL_lawz) 1345 = .ok (.iadd, 1) from by decide +kernel)).trans ?_
  refine (r_iald18 (show decode (zb m_LL_lawz) 1346 = .ok (.iaload, 1) from by decide +kernel) h1).trans ?_
  refine (r_aloadn 3 (show decode (zb m_LL_lawz) 1347 = .ok (.aload_n 3, 1) from by decide +kernel) rfl).trans ?_
  exact r_stat (args := [.ref a1, .int (gI σ 18 (Int32.toNatClampNeg (x4 + (1 : Int32)))), .ref a3]) (rest := []) (show decode (zb m_LL_lawz) 1348 = .ok (.invokestatic 188, 3) from by decide +kernel) rfl (by decide) rfl rfl
theorem b_LL_lawz_1351 {C : CF} {d : Nat} {σ : HP} {s0 : Int32} {a2 : Nat} {x4 : Int32} {l1 : Option Value} {l3 : Option Value} {l5 : Option Value} {l6 : Option Value} {l7 : Option Value} (h1 : inR (x4 + (1 : Int32)) (hL σ) = true) (h2 : a2 % 64 = 12) : runF C d m_LL_lawz (1351, [some (.ref 18), l1, some (.ref a2), l3, some (.int x4), l5, l6, l7], [.int s0], σ) = bk C d m_LL_lawz 1360 [some (.ref 18), l1, some (.ref a2), l3, some (.int x4), some (.int s0), l6, l7] [] (C m_Mo_fits [.ref a2, .int (gI σ 18 (Int32.toNatClampNeg (x4 + (1 : Int32))))] σ) := by
  refine (r_istore 5 (show decode (zb m_LL_lawz) 1351 = .ok (.istore 5, 2) from by decide +kernel) rfl).trans ?_
  refine (r_aloadn 2 (show decode (zb m_LL_lawz) 1353 = .ok (.aload_n 2, 1) from by decide +kernel) rfl).trans ?_
  refine (r_aloadn 0 (show decode (zb m_LL_lawz) 1354 = .ok (.aload_n 0, 1) from by decide +kernel) rfl).trans ?_
  refine (r_iload 4 (show decode (zb m_LL_lawz) 1355 = .ok (.iload 4, 2) from by decide +kernel) rfl).trans ?_
  refine (r_iconst (v := (1 : Int32)) (show decode (zb m_LL_lawz) 1357 = .ok (.iconst (1), 1) from by decide +kernel) (by decide)).trans ?_
  refine (r_iadd (show decode (zb m_LL_lawz) 1358 = .ok (.iadd, 1) from by decide +kernel)).trans ?_
  refine (r_iald18 (show decode (zb m_LL_lawz) 1359 = .ok (.iaload, 1) from by decide +kernel) h1).trans ?_
  exact r_virt (args := [.int (gI σ 18 (Int32.toNatClampNeg (x4 + (1 : Int32))))]) (rest := []) (show decode (zb m_LL_lawz) 1360 = .ok (.invokevirtual 190, 3) from by decide +kernel) rfl rfl rfl h2
theorem b_LL_lawz_1363 {C : CF} {d : Nat} {σ : HP} {s0 : Int32} {a2 : Nat} {l0 : Option Value} {l1 : Option Value} {l3 : Option Value} {l4 : Option Value} {l5 : Option Value} {l6 : Option Value} {l7 : Option Value} (h1 : a2 % 64 = 12) : runF C d m_LL_lawz (1363, [l0, l1, some (.ref a2), l3, l4, l5, l6, l7], [.int s0], σ) = bk C d m_LL_lawz 1366 [l0, l1, some (.ref a2), l3, l4, l5, some (.int s0), l7] [] (C m_Mo_thrown [.ref a2] σ) := by
  refine (r_istore 6 (show decode (zb m_LL_lawz) 1363 = .ok (.istore 6, 2) from by decide +kernel) rfl).trans ?_
  refine (r_aloadn 2 (show decode (zb m_LL_lawz) 1365 = .ok (.aload_n 2, 1) from by decide +kernel) rfl).trans ?_
  exact r_virt (args := []) (rest := []) (show decode (zb m_LL_lawz) 1366 = .ok (.invokevirtual 128, 3) from by decide +kernel) rfl rfl rfl h1
theorem b_LL_lawz_1369 {C : CF} {d : Nat} {σ : HP} {s0 : Int32} {x5 : Int32} {l0 : Option Value} {l1 : Option Value} {l2 : Option Value} {l3 : Option Value} {l4 : Option Value} {l6 : Option Value} {l7 : Option Value}  : runF C d m_LL_lawz (1369, [l0, l1, l2, l3, l4, some (.int x5), l6, l7], [.int s0], σ) = if s0 = x5 then runF C d m_LL_lawz (1376, [l0, l1, l2, l3, l4, some (.int x5), l6, l7], [], σ) else runF C d m_LL_lawz (1374, [l0, l1, l2, l3, l4, some (.int x5), l6, l7], [], σ) := by
  refine (r_iload 5 (show decode (zb m_LL_lawz) 1369 = .ok (.iload 5, 2) from by decide +kernel) rfl).trans ?_
  exact r_icmp_eq 1376 (show decode (zb m_LL_lawz) 1371 = .ok (.if_icmp .eq (5), 3) from by decide +kernel) rfl
theorem b_LL_lawz_1374 {C : CF} {d : Nat} {σ : HP} {l0 : Option Value} {l1 : Option Value} {l2 : Option Value} {l3 : Option Value} {l4 : Option Value} {l5 : Option Value} {l6 : Option Value} {l7 : Option Value}  : runF C d m_LL_lawz (1374, [l0, l1, l2, l3, l4, l5, l6, l7], [], σ) = some (.inl (some (.int (0 : Int32))), σ) := by
  refine (r_iconst (v := (0 : Int32)) (show decode (zb m_LL_lawz) 1374 = .ok (.iconst (0), 1) from by decide +kernel) (by decide)).trans ?_
  exact r_bret (show decode (zb m_LL_lawz) 1375 = .ok (.ireturn, 1) from by decide +kernel) rfl (by decide)
theorem b_LL_lawz_1376 {C : CF} {d : Nat} {σ : HP} {x5 : Int32} {l0 : Option Value} {l1 : Option Value} {l2 : Option Value} {l3 : Option Value} {l4 : Option Value} {l6 : Option Value} {l7 : Option Value}  : runF C d m_LL_lawz (1376, [l0, l1, l2, l3, l4, some (.int x5), l6, l7], [], σ) = if ¬ x5 = 0 then runF C d m_LL_lawz (1393, [l0, l1, l2, l3, l4, some (.int x5), l6, l7], [], σ) else runF C d m_LL_lawz (1381, [l0, l1, l2, l3, l4, some (.int x5), l6, l7], [], σ) := by
  refine (r_iload 5 (show decode (zb m_LL_lawz) 1376 = .ok (.iload 5, 2) from by decide +kernel) rfl).trans ?_
  exact r_if_ne 1393 (show decode (zb m_LL_lawz) 1378 = .ok (.ifCond .ne (15), 3) from by decide +kernel) rfl
theorem b_LL_lawz_1381 {C : CF} {d : Nat} {σ : HP} {a3 : Nat} {x6 : Int32} {l0 : Option Value} {l1 : Option Value} {l2 : Option Value} {l4 : Option Value} {l5 : Option Value} {l7 : Option Value} (h1 : aty (a3 % 64) = 2) (h2 : inR (0 : Int32) (alen (a3 % 64)) = true) : runF C d m_LL_lawz (1381, [l0, l1, l2, some (.ref a3), l4, l5, some (.int x6), l7], [], σ) = if (lg_cmp (gJ σ a3 (Int32.toNatClampNeg (0 : Int32))) (Int32.toInt64 x6)) = 0 then runF C d m_LL_lawz (1393, [l0, l1, l2, some (.ref a3), l4, l5, some (.int x6), l7], [], σ) else runF C d m_LL_lawz (1391, [l0, l1, l2, some (.ref a3), l4, l5, some (.int x6), l7], [], σ) := by
  refine (r_aloadn 3 (show decode (zb m_LL_lawz) 1381 = .ok (.aload_n 3, 1) from by decide +kernel) rfl).trans ?_
  refine (r_iconst (v := (0 : Int32)) (show decode (zb m_LL_lawz) 1382 = .ok (.iconst (0), 1) from by decide +kernel) (by decide)).trans ?_
  refine (r_lald (show decode (zb m_LL_lawz) 1383 = .ok (.laload, 1) from by decide +kernel) h1 h2).trans ?_
  refine (r_iload 6 (show decode (zb m_LL_lawz) 1384 = .ok (.iload 6, 2) from by decide +kernel) rfl).trans ?_
  refine (r_i2l (show decode (zb m_LL_lawz) 1386 = .ok (.i2l, 1) from by decide +kernel)).trans ?_
  refine (r_lcmp (show decode (zb m_LL_lawz) 1387 = .ok (.lcmp, 1) from by decide +kernel)).trans ?_
  exact r_if_eq 1393 (show decode (zb m_LL_lawz) 1388 = .ok (.ifCond .eq (5), 3) from by decide +kernel) rfl
theorem b_LL_lawz_1391 {C : CF} {d : Nat} {σ : HP} {l0 : Option Value} {l1 : Option Value} {l2 : Option Value} {l3 : Option Value} {l4 : Option Value} {l5 : Option Value} {l6 : Option Value} {l7 : Option Value}  : runF C d m_LL_lawz (1391, [l0, l1, l2, l3, l4, l5, l6, l7], [], σ) = some (.inl (some (.int (0 : Int32))), σ) := by
  refine (r_iconst (v := (0 : Int32)) (show decode (zb m_LL_lawz) 1391 = .ok (.iconst (0), 1) from by decide +kernel) (by decide)).trans ?_
  exact r_bret (show decode (zb m_LL_lawz) 1392 = .ok (.ireturn, 1) from by decide +kernel) rfl (by decide)
theorem b_LL_lawz_1393 {C : CF} {d : Nat} {σ : HP} {l0 : Option Value} {l1 : Option Value} {l2 : Option Value} {l3 : Option Value} {l4 : Option Value} {l5 : Option Value} {l6 : Option Value} {l7 : Option Value}  : runF C d m_LL_lawz (1393, [l0, l1, l2, l3, l4, l5, l6, l7], [], σ) = runF C d m_LL_lawz (2580, [l0, l1, l2, l3, l4, l5, l6, l7], [], σ) := by
  exact r_goto 2580 (show decode (zb m_LL_lawz) 1393 = .ok (.goto (1187), 3) from by decide +kernel) rfl
theorem b_LL_lawz_1396 {C : CF} {d : Nat} {σ : HP} {a1 : Nat} {x4 : Int32} {a3 : Nat} {l2 : Option Value} {l5 : Option Value} {l6 : Option Value} {l7 : Option Value} (h1 : inR (x4 + (1 : Int32)) (hL σ) = true) : runF C d m_LL_lawz (1396, [some (.ref 18), some (.ref a1), l2, some (.ref a3), some (.int x4), l5, l6, l7], [], σ) = bkN C d m_LL_lawz 1404 [some (.ref 18), some (.ref a1), l2, some (.ref a3), some (.int x4), l5, l6, l7] [] (C m_LL_look [.ref a1, .int (gI σ 18 (Int32.toNatClampNeg (x4 + (1 : Int32)))), .ref a3] σ) := by
  refine (r_aloadn 1 (show decode (zb m_LL_lawz) 1396 = .ok (.aload_n 1, 1) from by decide +kernel) rfl).trans ?_
  refine (r_aloadn 0 (show decode (zb m_LL_lawz) 1397 = .ok (.aload_n 0, 1) from by decide +kernel) rfl).trans ?_
  refine (r_iload 4 (show decode (zb m_LL_lawz) 1398 = .ok (.iload 4, 2) from by decide +kernel) rfl).trans ?_
  refine (r_iconst (v := (1 : Int32)) (show decode (zb m_LL_lawz) 1400 = .ok (.iconst (1), 1) from by decide +kernel) (by decide)).trans ?_
  refine (r_iadd (show decode (zb m_LL_lawz) 1401 = .ok (.iadd, 1) from by decide +kernel)).trans ?_
  refine (r_iald18 (show decode (zb m_LL_lawz) 1402 = .ok (.iaload, 1) from by decide +kernel) h1).trans ?_
  refine (r_aloadn 3 (show decode (zb m_LL_lawz) 1403 = .ok (.aload_n 3, 1) from by decide +kernel) rfl).trans ?_
  exact r_stat (args := [.ref a1, .int (gI σ 18 (Int32.toNatClampNeg (x4 + (1 : Int32)))), .ref a3]) (rest := []) (show decode (zb m_LL_lawz) 1404 = .ok (.invokestatic 191, 3) from by decide +kernel) rfl (by decide) rfl rfl
theorem b_LL_lawz_1407 {C : CF} {d : Nat} {σ : HP} {s0 : Int32} {a2 : Nat} {x4 : Int32} {l1 : Option Value} {l3 : Option Value} {l5 : Option Value} {l6 : Option Value} {l7 : Option Value} (h1 : inR (x4 + (1 : Int32)) (hL σ) = true) (h2 : a2 % 64 = 12) : runF C d m_LL_lawz (1407, [some (.ref 18), l1, some (.ref a2), l3, some (.int x4), l5, l6, l7], [.int s0], σ) = bk C d m_LL_lawz 1416 [some (.ref 18), l1, some (.ref a2), l3, some (.int x4), some (.int s0), l6, l7] [] (C m_Mo_look [.ref a2, .int (gI σ 18 (Int32.toNatClampNeg (x4 + (1 : Int32))))] σ) := by
  refine (r_istore 5 (show decode (zb m_LL_lawz) 1407 = .ok (.istore 5, 2) from by decide +kernel) rfl).trans ?_
  refine (r_aloadn 2 (show decode (zb m_LL_lawz) 1409 = .ok (.aload_n 2, 1) from by decide +kernel) rfl).trans ?_
  refine (r_aloadn 0 (show decode (zb m_LL_lawz) 1410 = .ok (.aload_n 0, 1) from by decide +kernel) rfl).trans ?_
  refine (r_iload 4 (show decode (zb m_LL_lawz) 1411 = .ok (.iload 4, 2) from by decide +kernel) rfl).trans ?_
  refine (r_iconst (v := (1 : Int32)) (show decode (zb m_LL_lawz) 1413 = .ok (.iconst (1), 1) from by decide +kernel) (by decide)).trans ?_
  refine (r_iadd (show decode (zb m_LL_lawz) 1414 = .ok (.iadd, 1) from by decide +kernel)).trans ?_
  refine (r_iald18 (show decode (zb m_LL_lawz) 1415 = .ok (.iaload, 1) from by decide +kernel) h1).trans ?_
  exact r_virt (args := [.int (gI σ 18 (Int32.toNatClampNeg (x4 + (1 : Int32))))]) (rest := []) (show decode (zb m_LL_lawz) 1416 = .ok (.invokevirtual 193, 3) from by decide +kernel) rfl rfl rfl h2
theorem b_LL_lawz_1419 {C : CF} {d : Nat} {σ : HP} {s0 : Int32} {a2 : Nat} {l0 : Option Value} {l1 : Option Value} {l3 : Option Value} {l4 : Option Value} {l5 : Option Value} {l6 : Option Value} {l7 : Option Value} (h1 : a2 % 64 = 12) : runF C d m_LL_lawz (1419, [l0, l1, some (.ref a2), l3, l4, l5, l6, l7], [.int s0], σ) = bk C d m_LL_lawz 1422 [l0, l1, some (.ref a2), l3, l4, l5, some (.int s0), l7] [] (C m_Mo_thrown [.ref a2] σ) := by
  refine (r_istore 6 (show decode (zb m_LL_lawz) 1419 = .ok (.istore 6, 2) from by decide +kernel) rfl).trans ?_
  refine (r_aloadn 2 (show decode (zb m_LL_lawz) 1421 = .ok (.aload_n 2, 1) from by decide +kernel) rfl).trans ?_
  exact r_virt (args := []) (rest := []) (show decode (zb m_LL_lawz) 1422 = .ok (.invokevirtual 128, 3) from by decide +kernel) rfl rfl rfl h1
theorem b_LL_lawz_1425 {C : CF} {d : Nat} {σ : HP} {s0 : Int32} {x5 : Int32} {l0 : Option Value} {l1 : Option Value} {l2 : Option Value} {l3 : Option Value} {l4 : Option Value} {l6 : Option Value} {l7 : Option Value}  : runF C d m_LL_lawz (1425, [l0, l1, l2, l3, l4, some (.int x5), l6, l7], [.int s0], σ) = if s0 = x5 then runF C d m_LL_lawz (1432, [l0, l1, l2, l3, l4, some (.int x5), l6, l7], [], σ) else runF C d m_LL_lawz (1430, [l0, l1, l2, l3, l4, some (.int x5), l6, l7], [], σ) := by
  refine (r_iload 5 (show decode (zb m_LL_lawz) 1425 = .ok (.iload 5, 2) from by decide +kernel) rfl).trans ?_
  exact r_icmp_eq 1432 (show decode (zb m_LL_lawz) 1427 = .ok (.if_icmp .eq (5), 3) from by decide +kernel) rfl
theorem b_LL_lawz_1430 {C : CF} {d : Nat} {σ : HP} {l0 : Option Value} {l1 : Option Value} {l2 : Option Value} {l3 : Option Value} {l4 : Option Value} {l5 : Option Value} {l6 : Option Value} {l7 : Option Value}  : runF C d m_LL_lawz (1430, [l0, l1, l2, l3, l4, l5, l6, l7], [], σ) = some (.inl (some (.int (0 : Int32))), σ) := by
  refine (r_iconst (v := (0 : Int32)) (show decode (zb m_LL_lawz) 1430 = .ok (.iconst (0), 1) from by decide +kernel) (by decide)).trans ?_
  exact r_bret (show decode (zb m_LL_lawz) 1431 = .ok (.ireturn, 1) from by decide +kernel) rfl (by decide)
theorem b_LL_lawz_1432 {C : CF} {d : Nat} {σ : HP} {x5 : Int32} {l0 : Option Value} {l1 : Option Value} {l2 : Option Value} {l3 : Option Value} {l4 : Option Value} {l6 : Option Value} {l7 : Option Value}  : runF C d m_LL_lawz (1432, [l0, l1, l2, l3, l4, some (.int x5), l6, l7], [], σ) = if ¬ x5 = 0 then runF C d m_LL_lawz (1449, [l0, l1, l2, l3, l4, some (.int x5), l6, l7], [], σ) else runF C d m_LL_lawz (1437, [l0, l1, l2, l3, l4, some (.int x5), l6, l7], [], σ) := by
  refine (r_iload 5 (show decode (zb m_LL_lawz) 1432 = .ok (.iload 5, 2) from by decide +kernel) rfl).trans ?_
  exact r_if_ne 1449 (show decode (zb m_LL_lawz) 1434 = .ok (.ifCond .ne (15), 3) from by decide +kernel) rfl
theorem b_LL_lawz_1437 {C : CF} {d : Nat} {σ : HP} {a3 : Nat} {x6 : Int32} {l0 : Option Value} {l1 : Option Value} {l2 : Option Value} {l4 : Option Value} {l5 : Option Value} {l7 : Option Value} (h1 : aty (a3 % 64) = 2) (h2 : inR (0 : Int32) (alen (a3 % 64)) = true) : runF C d m_LL_lawz (1437, [l0, l1, l2, some (.ref a3), l4, l5, some (.int x6), l7], [], σ) = if (lg_cmp (gJ σ a3 (Int32.toNatClampNeg (0 : Int32))) (Int32.toInt64 x6)) = 0 then runF C d m_LL_lawz (1449, [l0, l1, l2, some (.ref a3), l4, l5, some (.int x6), l7], [], σ) else runF C d m_LL_lawz (1447, [l0, l1, l2, some (.ref a3), l4, l5, some (.int x6), l7], [], σ) := by
  refine (r_aloadn 3 (show decode (zb m_LL_lawz) 1437 = .ok (.aload_n 3, 1) from by decide +kernel) rfl).trans ?_
  refine (r_iconst (v := (0 : Int32)) (show decode (zb m_LL_lawz) 1438 = .ok (.iconst (0), 1) from by decide +kernel) (by decide)).trans ?_
  refine (r_lald (show decode (zb m_LL_lawz) 1439 = .ok (.laload, 1) from by decide +kernel) h1 h2).trans ?_
  refine (r_iload 6 (show decode (zb m_LL_lawz) 1440 = .ok (.iload 6, 2) from by decide +kernel) rfl).trans ?_
  refine (r_i2l (show decode (zb m_LL_lawz) 1442 = .ok (.i2l, 1) from by decide +kernel)).trans ?_
  refine (r_lcmp (show decode (zb m_LL_lawz) 1443 = .ok (.lcmp, 1) from by decide +kernel)).trans ?_
  exact r_if_eq 1449 (show decode (zb m_LL_lawz) 1444 = .ok (.ifCond .eq (5), 3) from by decide +kernel) rfl
theorem b_LL_lawz_1447 {C : CF} {d : Nat} {σ : HP} {l0 : Option Value} {l1 : Option Value} {l2 : Option Value} {l3 : Option Value} {l4 : Option Value} {l5 : Option Value} {l6 : Option Value} {l7 : Option Value}  : runF C d m_LL_lawz (1447, [l0, l1, l2, l3, l4, l5, l6, l7], [], σ) = some (.inl (some (.int (0 : Int32))), σ) := by
  refine (r_iconst (v := (0 : Int32)) (show decode (zb m_LL_lawz) 1447 = .ok (.iconst (0), 1) from by decide +kernel) (by decide)).trans ?_
  exact r_bret (show decode (zb m_LL_lawz) 1448 = .ok (.ireturn, 1) from by decide +kernel) rfl (by decide)
theorem b_LL_lawz_1449 {C : CF} {d : Nat} {σ : HP} {l0 : Option Value} {l1 : Option Value} {l2 : Option Value} {l3 : Option Value} {l4 : Option Value} {l5 : Option Value} {l6 : Option Value} {l7 : Option Value}  : runF C d m_LL_lawz (1449, [l0, l1, l2, l3, l4, l5, l6, l7], [], σ) = runF C d m_LL_lawz (2580, [l0, l1, l2, l3, l4, l5, l6, l7], [], σ) := by
  exact r_goto 2580 (show decode (zb m_LL_lawz) 1449 = .ok (.goto (1131), 3) from by decide +kernel) rfl
theorem b_LL_lawz_1452 {C : CF} {d : Nat} {σ : HP} {a1 : Nat} {x4 : Int32} {a3 : Nat} {l2 : Option Value} {l5 : Option Value} {l6 : Option Value} {l7 : Option Value} (h1 : inR (x4 + (1 : Int32)) (hL σ) = true) (h2 : inR (x4 + (2 : Int32)) (hL σ) = true) (h3 : inR (x4 + (3 : Int32)) (hL σ) = true) (h4 : inR (x4 + (4 : Int32)) (hL σ) = true) : runF C d m_LL_lawz (1452, [some (.ref 18), some (.ref a1), l2, some (.ref a3), some (.int x4), l5, l6, l7], [], σ) = bkN C d m_LL_lawz 1478 [some (.ref 18), some (.ref a1), l2, some (.ref a3), some (.int x4), l5, l6, l7] [] (C m_LL_streak [.ref a1, .int (gI σ 18 (Int32.toNatClampNeg (x4 + (1 : Int32)))), .int (gI σ 18 (Int32.toNatClampNeg (x4 + (2 : Int32)))), .int (gI σ 18 (Int32.toNatClampNeg (x4 + (3 : Int32)))), .int (gI σ 18 (Int32.toNatClampNeg (x4 + (4 : Int32)))), .ref a3] σ) := by
  refine (r_aloadn 1 (show decode (zb m_LL_lawz) 1452 = .ok (.aload_n 1, 1) from by decide +kernel) rfl).trans ?_
  refine (r_aloadn 0 (show decode (zb m_LL_lawz) 1453 = .ok (.aload_n 0, 1) from by decide +kernel) rfl).trans ?_
  refine (r_iload 4 (show decode (zb m_LL_lawz) 1454 = .ok (.iload 4, 2) from by decide +kernel) rfl).trans ?_
  refine (r_iconst (v := (1 : Int32)) (show decode (zb m_LL_lawz) 1456 = .ok (.iconst (1), 1) from by decide +kernel) (by decide)).trans ?_
  refine (r_iadd (show decode (zb m_LL_lawz) 1457 = .ok (.iadd, 1) from by decide +kernel)).trans ?_
  refine (r_iald18 (show decode (zb m_LL_lawz) 1458 = .ok (.iaload, 1) from by decide +kernel) h1).trans ?_
  refine (r_aloadn 0 (show decode (zb m_LL_lawz) 1459 = .ok (.aload_n 0, 1) from by decide +kernel) rfl).trans ?_
  refine (r_iload 4 (show decode (zb m_LL_lawz) 1460 = .ok (.iload 4, 2) from by decide +kernel) rfl).trans ?_
  refine (r_iconst (v := (2 : Int32)) (show decode (zb m_LL_lawz) 1462 = .ok (.iconst (2), 1) from by decide +kernel) (by decide)).trans ?_
  refine (r_iadd (show decode (zb m_LL_lawz) 1463 = .ok (.iadd, 1) from by decide +kernel)).trans ?_
  refine (r_iald18 (show decode (zb m_LL_lawz) 1464 = .ok (.iaload, 1) from by decide +kernel) h2).trans ?_
  refine (r_aloadn 0 (show decode (zb m_LL_lawz) 1465 = .ok (.aload_n 0, 1) from by decide +kernel) rfl).trans ?_
  refine (r_iload 4 (show decode (zb m_LL_lawz) 1466 = .ok (.iload 4, 2) from by decide +kernel) rfl).trans ?_
  refine (r_iconst (v := (3 : Int32)) (show decode (zb m_LL_lawz) 1468 = .ok (.iconst (3), 1) from by decide +kernel) (by decide)).trans ?_
  refine (r_iadd (show decode (zb m_LL_lawz) 1469 = .ok (.iadd, 1) from by decide +kernel)).trans ?_
  refine (r_iald18 (show decode (zb m_LL_lawz) 1470 = .ok (.iaload, 1) from by decide +kernel) h3).trans ?_
  refine (r_aloadn 0 (show decode (zb m_LL_lawz) 1471 = .ok (.aload_n 0, 1) from by decide +kernel) rfl).trans ?_
  refine (r_iload 4 (show decode (zb m_LL_lawz) 1472 = .ok (.iload 4, 2) from by decide +kernel) rfl).trans ?_
  refine (r_iconst (v := (4 : Int32)) (show decode (zb m_LL_lawz) 1474 = .ok (.iconst (4), 1) from by decide +kernel) (by decide)).trans ?_
  refine (r_iadd (show decode (zb m_LL_lawz) 1475 = .ok (.iadd, 1) from by decide +kernel)).trans ?_
  refine (r_iald18 (show decode (zb m_LL_lawz) 1476 = .ok (.iaload, 1) from by decide +kernel) h4).trans ?_
  refine (r_aloadn 3 (show decode (zb m_LL_lawz) 1477 = .ok (.aload_n 3, 1) from by decide +kernel) rfl).trans ?_
  exact r_stat (args := [.ref a1, .int (gI σ 18 (Int32.toNatClampNeg (x4 + (1 : Int32)))), .int (gI σ 18 (Int32.toNatClampNeg (x4 + (2 : Int32)))), .int (gI σ 18 (Int32.toNatClampNeg (x4 + (3 : Int32)))), .int (gI σ 18 (Int32.toNatClampNeg (x4 + (4 : Int32)))), .ref a3]) (rest := []) (show decode (zb m_LL_lawz) 1478 = .ok (.invokestatic 194, 3) from by decide +kernel) rfl (by decide) rfl rfl
theorem b_LL_lawz_1481 {C : CF} {d : Nat} {σ : HP} {s0 : Int32} {a2 : Nat} {x4 : Int32} {l1 : Option Value} {l3 : Option Value} {l5 : Option Value} {l6 : Option Value} {l7 : Option Value} (h1 : inR (x4 + (1 : Int32)) (hL σ) = true) (h2 : inR (x4 + (2 : Int32)) (hL σ) = true) (h3 : inR (x4 + (3 : Int32)) (hL σ) = true) (h4 : inR (x4 + (4 : Int32)) (hL σ) = true) (h5 : a2 % 64 = 12) : runF C d m_LL_lawz (1481, [some (.ref 18), l1, some (.ref a2), l3, some (.int x4), l5, l6, l7], [.int s0], σ) = bk C d m_LL_lawz 1508 [some (.ref 18), l1, some (.ref a2), l3, some (.int x4), some (.int s0), l6, l7] [] (C m_Mo_streak [.ref a2, .int (gI σ 18 (Int32.toNatClampNeg (x4 + (1 : Int32)))), .int (gI σ 18 (Int32.toNatClampNeg (x4 + (2 : Int32)))), .int (gI σ 18 (Int32.toNatClampNeg (x4 + (3 : Int32)))), .int (gI σ 18 (Int32.toNatClampNeg (x4 + (4 : Int32))))] σ) := by
  refine (r_istore 5 (show decode (zb m_LL_lawz) 1481 = .ok (.istore 5, 2) from by decide +kernel) rfl).trans ?_
  refine (r_aloadn 2 (show decode (zb m_LL_lawz) 1483 = .ok (.aload_n 2, 1) from by decide +kernel) rfl).trans ?_
  refine (r_aloadn 0 (show decode (zb m_LL_lawz) 1484 = .ok (.aload_n 0, 1) from by decide +kernel) rfl).trans ?_
  refine (r_iload 4 (show decode (zb m_LL_lawz) 1485 = .ok (.iload 4, 2) from by decide +kernel) rfl).trans ?_
  refine (r_iconst (v := (1 : Int32)) (show decode (zb m_LL_lawz) 1487 = .ok (.iconst (1), 1) from by decide +kernel) (by decide)).trans ?_
  refine (r_iadd (show decode (zb m_LL_lawz) 1488 = .ok (.iadd, 1) from by decide +kernel)).trans ?_
  refine (r_iald18 (show decode (zb m_LL_lawz) 1489 = .ok (.iaload, 1) from by decide +kernel) h1).trans ?_
  refine (r_aloadn 0 (show decode (zb m_LL_lawz) 1490 = .ok (.aload_n 0, 1) from by decide +kernel) rfl).trans ?_
  refine (r_iload 4 (show decode (zb m_LL_lawz) 1491 = .ok (.iload 4, 2) from by decide +kernel) rfl).trans ?_
  refine (r_iconst (v := (2 : Int32)) (show decode (zb m_LL_lawz) 1493 = .ok (.iconst (2), 1) from by decide +kernel) (by decide)).trans ?_
  refine (r_iadd (show decode (zb m_LL_lawz) 1494 = .ok (.iadd, 1) from by decide +kernel)).trans ?_
  refine (r_iald18 (show decode (zb m_LL_lawz) 1495 = .ok (.iaload, 1) from by decide +kernel) h2).trans ?_
  refine (r_aloadn 0 (show decode (zb m_LL_lawz) 1496 = .ok (.aload_n 0, 1) from by decide +kernel) rfl).trans ?_
  refine (r_iload 4 (show decode (zb m_LL_lawz) 1497 = .ok (.iload 4, 2) from by decide +kernel) rfl).trans ?_
  refine (r_iconst (v := (3 : Int32)) (show decode (zb m_LL_lawz) 1499 = .ok (.iconst (3), 1) from by decide +kernel) (by decide)).trans ?_
  refine (r_iadd (show decode (zb m_LL_lawz) 1500 = .ok (.iadd, 1) from by decide +kernel)).trans ?_
  refine (r_iald18 (show decode (zb m_LL_lawz) 1501 = .ok (.iaload, 1) from by decide +kernel) h3).trans ?_
  refine (r_aloadn 0 (show decode (zb m_LL_lawz) 1502 = .ok (.aload_n 0, 1) from by decide +kernel) rfl).trans ?_
  refine (r_iload 4 (show decode (zb m_LL_lawz) 1503 = .ok (.iload 4, 2) from by decide +kernel) rfl).trans ?_
  refine (r_iconst (v := (4 : Int32)) (show decode (zb m_LL_lawz) 1505 = .ok (.iconst (4), 1) from by decide +kernel) (by decide)).trans ?_
  refine (r_iadd (show decode (zb m_LL_lawz) 1506 = .ok (.iadd, 1) from by decide +kernel)).trans ?_
  refine (r_iald18 (show decode (zb m_LL_lawz) 1507 = .ok (.iaload, 1) from by decide +kernel) h4).trans ?_
  exact r_virt (args := [.int (gI σ 18 (Int32.toNatClampNeg (x4 + (1 : Int32)))), .int (gI σ 18 (Int32.toNatClampNeg (x4 + (2 : Int32)))), .int (gI σ 18 (Int32.toNatClampNeg (x4 + (3 : Int32)))), .int (gI σ 18 (Int32.toNatClampNeg (x4 + (4 : Int32))))]) (rest := []) (show decode (zb m_LL_lawz) 1508 = .ok (.invokevirtual 197, 3) from by decide +kernel) rfl rfl rfl h5
theorem b_LL_lawz_1511 {C : CF} {d : Nat} {σ : HP} {t0 : Int64} {a2 : Nat} {l0 : Option Value} {l1 : Option Value} {l3 : Option Value} {l4 : Option Value} {l5 : Option Value} {l6 : Option Value} {l7 : Option Value} (h1 : a2 % 64 = 12) : runF C d m_LL_lawz (1511, [l0, l1, some (.ref a2), l3, l4, l5, l6, l7], [.long t0], σ) = bk C d m_LL_lawz 1514 [l0, l1, some (.ref a2), l3, l4, l5, some (.long t0), none] [] (C m_Mo_thrown [.ref a2] σ) := by
  refine (r_lstore 6 (show decode (zb m_LL_lawz) 1511 = .ok (.lstore 6, 2) from by decide +kernel) rfl).trans ?_
  refine (r_aloadn 2 (show decode (zb m_LL_lawz) 1513 = .ok (.aload_n 2, 1) from by decide +kernel) rfl).trans ?_
  exact r_virt (args := []) (rest := []) (show decode (zb m_LL_lawz) 1514 = .ok (.invokevirtual 128, 3) from by decide +kernel) rfl rfl rfl h1
theorem b_LL_lawz_1517 {C : CF} {d : Nat} {σ : HP} {s0 : Int32} {x5 : Int32} {l0 : Option Value} {l1 : Option Value} {l2 : Option Value} {l3 : Option Value} {l4 : Option Value} {l6 : Option Value} {l7 : Option Value}  : runF C d m_LL_lawz (1517, [l0, l1, l2, l3, l4, some (.int x5), l6, l7], [.int s0], σ) = if s0 = x5 then runF C d m_LL_lawz (1524, [l0, l1, l2, l3, l4, some (.int x5), l6, l7], [], σ) else runF C d m_LL_lawz (1522, [l0, l1, l2, l3, l4, some (.int x5), l6, l7], [], σ) := by
  refine (r_iload 5 (show decode (zb m_LL_lawz) 1517 = .ok (.iload 5, 2) from by decide +kernel) rfl).trans ?_
  exact r_icmp_eq 1524 (show decode (zb m_LL_lawz) 1519 = .ok (.if_icmp .eq (5), 3) from by decide +kernel) rfl
theorem b_LL_lawz_1522 {C : CF} {d : Nat} {σ : HP} {l0 : Option Value} {l1 : Option Value} {l2 : Option Value} {l3 : Option Value} {l4 : Option Value} {l5 : Option Value} {l6 : Option Value} {l7 : Option Value}  : runF C d m_LL_lawz (1522, [l0, l1, l2, l3, l4, l5, l6, l7], [], σ) = some (.inl (some (.int (0 : Int32))), σ) := by
  refine (r_iconst (v := (0 : Int32)) (show decode (zb m_LL_lawz) 1522 = .ok (.iconst (0), 1) from by decide +kernel) (by decide)).trans ?_
  exact r_bret (show decode (zb m_LL_lawz) 1523 = .ok (.ireturn, 1) from by decide +kernel) rfl (by decide)
theorem b_LL_lawz_1524 {C : CF} {d : Nat} {σ : HP} {x5 : Int32} {l0 : Option Value} {l1 : Option Value} {l2 : Option Value} {l3 : Option Value} {l4 : Option Value} {l6 : Option Value} {l7 : Option Value}  : runF C d m_LL_lawz (1524, [l0, l1, l2, l3, l4, some (.int x5), l6, l7], [], σ) = if ¬ x5 = 0 then runF C d m_LL_lawz (1540, [l0, l1, l2, l3, l4, some (.int x5), l6, l7], [], σ) else runF C d m_LL_lawz (1529, [l0, l1, l2, l3, l4, some (.int x5), l6, l7], [], σ) := by
  refine (r_iload 5 (show decode (zb m_LL_lawz) 1524 = .ok (.iload 5, 2) from by decide +kernel) rfl).trans ?_
  exact r_if_ne 1540 (show decode (zb m_LL_lawz) 1526 = .ok (.ifCond .ne (14), 3) from by decide +kernel) rfl
theorem b_LL_lawz_1529 {C : CF} {d : Nat} {σ : HP} {a3 : Nat} {j6 : Int64} {l0 : Option Value} {l1 : Option Value} {l2 : Option Value} {l4 : Option Value} {l5 : Option Value} {l7 : Option Value} (h1 : aty (a3 % 64) = 2) (h2 : inR (0 : Int32) (alen (a3 % 64)) = true) : runF C d m_LL_lawz (1529, [l0, l1, l2, some (.ref a3), l4, l5, some (.long j6), l7], [], σ) = if (lg_cmp (gJ σ a3 (Int32.toNatClampNeg (0 : Int32))) j6) = 0 then runF C d m_LL_lawz (1540, [l0, l1, l2, some (.ref a3), l4, l5, some (.long j6), l7], [], σ) else runF C d m_LL_lawz (1538, [l0, l1, l2, some (.ref a3), l4, l5, some (.long j6), l7], [], σ) := by
  refine (r_aloadn 3 (show decode (zb m_LL_lawz) 1529 = .ok (.aload_n 3, 1) from by decide +kernel) rfl).trans ?_
  refine (r_iconst (v := (0 : Int32)) (show decode (zb m_LL_lawz) 1530 = .ok (.iconst (0), 1) from by decide +kernel) (by decide)).trans ?_
  refine (r_lald (show decode (zb m_LL_lawz) 1531 = .ok (.laload, 1) from by decide +kernel) h1 h2).trans ?_
  refine (r_lload 6 (show decode (zb m_LL_lawz) 1532 = .ok (.lload 6, 2) from by decide +kernel) rfl).trans ?_
  refine (r_lcmp (show decode (zb m_LL_lawz) 1534 = .ok (.lcmp, 1) from by decide +kernel)).trans ?_
  exact r_if_eq 1540 (show decode (zb m_LL_lawz) 1535 = .ok (.ifCond .eq (5), 3) from by decide +kernel) rfl
theorem b_LL_lawz_1538 {C : CF} {d : Nat} {σ : HP} {l0 : Option Value} {l1 : Option Value} {l2 : Option Value} {l3 : Option Value} {l4 : Option Value} {l5 : Option Value} {l6 : Option Value} {l7 : Option Value}  : runF C d m_LL_lawz (1538, [l0, l1, l2, l3, l4, l5, l6, l7], [], σ) = some (.inl (some (.int (0 : Int32))), σ) := by
  refine (r_iconst (v := (0 : Int32)) (show decode (zb m_LL_lawz) 1538 = .ok (.iconst (0), 1) from by decide +kernel) (by decide)).trans ?_
  exact r_bret (show decode (zb m_LL_lawz) 1539 = .ok (.ireturn, 1) from by decide +kernel) rfl (by decide)
theorem b_LL_lawz_1540 {C : CF} {d : Nat} {σ : HP} {l0 : Option Value} {l1 : Option Value} {l2 : Option Value} {l3 : Option Value} {l4 : Option Value} {l5 : Option Value} {l6 : Option Value} {l7 : Option Value}  : runF C d m_LL_lawz (1540, [l0, l1, l2, l3, l4, l5, l6, l7], [], σ) = runF C d m_LL_lawz (2580, [l0, l1, l2, l3, l4, l5, l6, l7], [], σ) := by
  exact r_goto 2580 (show decode (zb m_LL_lawz) 1540 = .ok (.goto (1040), 3) from by decide +kernel) rfl
theorem b_LL_lawz_1543 {C : CF} {d : Nat} {σ : HP} {a1 : Nat} {x4 : Int32} {a3 : Nat} {l2 : Option Value} {l5 : Option Value} {l6 : Option Value} {l7 : Option Value} (h1 : inR (x4 + (1 : Int32)) (hL σ) = true) (h2 : inR (x4 + (2 : Int32)) (hL σ) = true) (h3 : inR (x4 + (3 : Int32)) (hL σ) = true) : runF C d m_LL_lawz (1543, [some (.ref 18), some (.ref a1), l2, some (.ref a3), some (.int x4), l5, l6, l7], [], σ) = bkN C d m_LL_lawz 1563 [some (.ref 18), some (.ref a1), l2, some (.ref a3), some (.int x4), l5, l6, l7] [] (C m_LL_flatter [.ref a1, .int (gI σ 18 (Int32.toNatClampNeg (x4 + (1 : Int32)))), .int (gI σ 18 (Int32.toNatClampNeg (x4 + (2 : Int32)))), .int (gI σ 18 (Int32.toNatClampNeg (x4 + (3 : Int32)))), .ref a3] σ) := by
  refine (r_aloadn 1 (show decode (zb m_LL_lawz) 1543 = .ok (.aload_n 1, 1) from by decide +kernel) rfl).trans ?_
  refine (r_aloadn 0 (show decode (zb m_LL_lawz) 1544 = .ok (.aload_n 0, 1) from by decide +kernel) rfl).trans ?_
  refine (r_iload 4 (show decode (zb m_LL_lawz) 1545 = .ok (.iload 4, 2) from by decide +kernel) rfl).trans ?_
  refine (r_iconst (v := (1 : Int32)) (show decode (zb m_LL_lawz) 1547 = .ok (.iconst (1), 1) from by decide +kernel) (by decide)).trans ?_
  refine (r_iadd (show decode (zb m_LL_lawz) 1548 = .ok (.iadd, 1) from by decide +kernel)).trans ?_
  refine (r_iald18 (show decode (zb m_LL_lawz) 1549 = .ok (.iaload, 1) from by decide +kernel) h1).trans ?_
  refine (r_aloadn 0 (show decode (zb m_LL_lawz) 1550 = .ok (.aload_n 0, 1) from by decide +kernel) rfl).trans ?_
  refine (r_iload 4 (show decode (zb m_LL_lawz) 1551 = .ok (.iload 4, 2) from by decide +kernel) rfl).trans ?_
  refine (r_iconst (v := (2 : Int32)) (show decode (zb m_LL_lawz) 1553 = .ok (.iconst (2), 1) from by decide +kernel) (by decide)).trans ?_
  refine (r_iadd (show decode (zb m_LL_lawz) 1554 = .ok (.iadd, 1) from by decide +kernel)).trans ?_
  refine (r_iald18 (show decode (zb m_LL_lawz) 1555 = .ok (.iaload, 1) from by decide +kernel) h2).trans ?_
  refine (r_aloadn 0 (show decode (zb m_LL_lawz) 1556 = .ok (.aload_n 0, 1) from by decide +kernel) rfl).trans ?_
  refine (r_iload 4 (show decode (zb m_LL_lawz) 1557 = .ok (.iload 4, 2) from by decide +kernel) rfl).trans ?_
  refine (r_iconst (v := (3 : Int32)) (show decode (zb m_LL_lawz) 1559 = .ok (.iconst (3), 1) from by decide +kernel) (by decide)).trans ?_
  refine (r_iadd (show decode (zb m_LL_lawz) 1560 = .ok (.iadd, 1) from by decide +kernel)).trans ?_
  refine (r_iald18 (show decode (zb m_LL_lawz) 1561 = .ok (.iaload, 1) from by decide +kernel) h3).trans ?_
  refine (r_aloadn 3 (show decode (zb m_LL_lawz) 1562 = .ok (.aload_n 3, 1) from by decide +kernel) rfl).trans ?_
  exact r_stat (args := [.ref a1, .int (gI σ 18 (Int32.toNatClampNeg (x4 + (1 : Int32)))), .int (gI σ 18 (Int32.toNatClampNeg (x4 + (2 : Int32)))), .int (gI σ 18 (Int32.toNatClampNeg (x4 + (3 : Int32)))), .ref a3]) (rest := []) (show decode (zb m_LL_lawz) 1563 = .ok (.invokestatic 198, 3) from by decide +kernel) rfl (by decide) rfl rfl
theorem b_LL_lawz_1566 {C : CF} {d : Nat} {σ : HP} {s0 : Int32} {a2 : Nat} {x4 : Int32} {l1 : Option Value} {l3 : Option Value} {l5 : Option Value} {l6 : Option Value} {l7 : Option Value} (h1 : inR (x4 + (1 : Int32)) (hL σ) = true) (h2 : inR (x4 + (2 : Int32)) (hL σ) = true) (h3 : inR (x4 + (3 : Int32)) (hL σ) = true) (h4 : a2 % 64 = 12) : runF C d m_LL_lawz (1566, [some (.ref 18), l1, some (.ref a2), l3, some (.int x4), l5, l6, l7], [.int s0], σ) = bk C d m_LL_lawz 1587 [some (.ref 18), l1, some (.ref a2), l3, some (.int x4), some (.int s0), l6, l7] [] (C m_Mo_flatter [.ref a2, .int (gI σ 18 (Int32.toNatClampNeg (x4 + (1 : Int32)))), .int (gI σ 18 (Int32.toNatClampNeg (x4 + (2 : Int32)))), .int (gI σ 18 (Int32.toNatClampNeg (x4 + (3 : Int32))))] σ) := by
  refine (r_istore 5 (show decode (zb m_LL_lawz) 1566 = .ok (.istore 5, 2) from by decide +kernel) rfl).trans ?_
  refine (r_aloadn 2 (show decode (zb m_LL_lawz) 1568 = .ok (.aload_n 2, 1) from by decide +kernel) rfl).trans ?_
  refine (r_aloadn 0 (show decode (zb m_LL_lawz) 1569 = .ok (.aload_n 0, 1) from by decide +kernel) rfl).trans ?_
  refine (r_iload 4 (show decode (zb m_LL_lawz) 1570 = .ok (.iload 4, 2) from by decide +kernel) rfl).trans ?_
  refine (r_iconst (v := (1 : Int32)) (show decode (zb m_LL_lawz) 1572 = .ok (.iconst (1), 1) from by decide +kernel) (by decide)).trans ?_
  refine (r_iadd (show decode (zb m_LL_lawz) 1573 = .ok (.iadd, 1) from by decide +kernel)).trans ?_
  refine (r_iald18 (show decode (zb m_LL_lawz) 1574 = .ok (.iaload, 1) from by decide +kernel) h1).trans ?_
  refine (r_aloadn 0 (show decode (zb m_LL_lawz) 1575 = .ok (.aload_n 0, 1) from by decide +kernel) rfl).trans ?_
  refine (r_iload 4 (show decode (zb m_LL_lawz) 1576 = .ok (.iload 4, 2) from by decide +kernel) rfl).trans ?_
  refine (r_iconst (v := (2 : Int32)) (show decode (zb m_LL_lawz) 1578 = .ok (.iconst (2), 1) from by decide +kernel) (by decide)).trans ?_
  refine (r_iadd (show decode (zb m_LL_lawz) 1579 = .ok (.iadd, 1) from by decide +kernel)).trans ?_
  refine (r_iald18 (show decode (zb m_LL_lawz) 1580 = .ok (.iaload, 1) from by decide +kernel) h2).trans ?_
  refine (r_aloadn 0 (show decode (zb m_LL_lawz) 1581 = .ok (.aload_n 0, 1) from by decide +kernel) rfl).trans ?_
  refine (r_iload 4 (show decode (zb m_LL_lawz) 1582 = .ok (.iload 4, 2) from by decide +kernel) rfl).trans ?_
  refine (r_iconst (v := (3 : Int32)) (show decode (zb m_LL_lawz) 1584 = .ok (.iconst (3), 1) from by decide +kernel) (by decide)).trans ?_
  refine (r_iadd (show decode (zb m_LL_lawz) 1585 = .ok (.iadd, 1) from by decide +kernel)).trans ?_
  refine (r_iald18 (show decode (zb m_LL_lawz) 1586 = .ok (.iaload, 1) from by decide +kernel) h3).trans ?_
  exact r_virt (args := [.int (gI σ 18 (Int32.toNatClampNeg (x4 + (1 : Int32)))), .int (gI σ 18 (Int32.toNatClampNeg (x4 + (2 : Int32)))), .int (gI σ 18 (Int32.toNatClampNeg (x4 + (3 : Int32))))]) (rest := []) (show decode (zb m_LL_lawz) 1587 = .ok (.invokevirtual 201, 3) from by decide +kernel) rfl rfl rfl h4
theorem b_LL_lawz_1590 {C : CF} {d : Nat} {σ : HP} {s0 : Int32} {a2 : Nat} {l0 : Option Value} {l1 : Option Value} {l3 : Option Value} {l4 : Option Value} {l5 : Option Value} {l6 : Option Value} {l7 : Option Value} (h1 : a2 % 64 = 12) : runF C d m_LL_lawz (1590, [l0, l1, some (.ref a2), l3, l4, l5, l6, l7], [.int s0], σ) = bk C d m_LL_lawz 1593 [l0, l1, some (.ref a2), l3, l4, l5, some (.int s0), l7] [] (C m_Mo_thrown [.ref a2] σ) := by
  refine (r_istore 6 (show decode (zb m_LL_lawz) 1590 = .ok (.istore 6, 2) from by decide +kernel) rfl).trans ?_
  refine (r_aloadn 2 (show decode (zb m_LL_lawz) 1592 = .ok (.aload_n 2, 1) from by decide +kernel) rfl).trans ?_
  exact r_virt (args := []) (rest := []) (show decode (zb m_LL_lawz) 1593 = .ok (.invokevirtual 128, 3) from by decide +kernel) rfl rfl rfl h1
theorem b_LL_lawz_1596 {C : CF} {d : Nat} {σ : HP} {s0 : Int32} {x5 : Int32} {l0 : Option Value} {l1 : Option Value} {l2 : Option Value} {l3 : Option Value} {l4 : Option Value} {l6 : Option Value} {l7 : Option Value}  : runF C d m_LL_lawz (1596, [l0, l1, l2, l3, l4, some (.int x5), l6, l7], [.int s0], σ) = if s0 = x5 then runF C d m_LL_lawz (1603, [l0, l1, l2, l3, l4, some (.int x5), l6, l7], [], σ) else runF C d m_LL_lawz (1601, [l0, l1, l2, l3, l4, some (.int x5), l6, l7], [], σ) := by
  refine (r_iload 5 (show decode (zb m_LL_lawz) 1596 = .ok (.iload 5, 2) from by decide +kernel) rfl).trans ?_
  exact r_icmp_eq 1603 (show decode (zb m_LL_lawz) 1598 = .ok (.if_icmp .eq (5), 3) from by decide +kernel) rfl
theorem b_LL_lawz_1601 {C : CF} {d : Nat} {σ : HP} {l0 : Option Value} {l1 : Option Value} {l2 : Option Value} {l3 : Option Value} {l4 : Option Value} {l5 : Option Value} {l6 : Option Value} {l7 : Option Value}  : runF C d m_LL_lawz (1601, [l0, l1, l2, l3, l4, l5, l6, l7], [], σ) = some (.inl (some (.int (0 : Int32))), σ) := by
  refine (r_iconst (v := (0 : Int32)) (show decode (zb m_LL_lawz) 1601 = .ok (.iconst (0), 1) from by decide +kernel) (by decide)).trans ?_
  exact r_bret (show decode (zb m_LL_lawz) 1602 = .ok (.ireturn, 1) from by decide +kernel) rfl (by decide)
theorem b_LL_lawz_1603 {C : CF} {d : Nat} {σ : HP} {x5 : Int32} {l0 : Option Value} {l1 : Option Value} {l2 : Option Value} {l3 : Option Value} {l4 : Option Value} {l6 : Option Value} {l7 : Option Value}  : runF C d m_LL_lawz (1603, [l0, l1, l2, l3, l4, some (.int x5), l6, l7], [], σ) = if ¬ x5 = 0 then runF C d m_LL_lawz (1620, [l0, l1, l2, l3, l4, some (.int x5), l6, l7], [], σ) else runF C d m_LL_lawz (1608, [l0, l1, l2, l3, l4, some (.int x5), l6, l7], [], σ) := by
  refine (r_iload 5 (show decode (zb m_LL_lawz) 1603 = .ok (.iload 5, 2) from by decide +kernel) rfl).trans ?_
  exact r_if_ne 1620 (show decode (zb m_LL_lawz) 1605 = .ok (.ifCond .ne (15), 3) from by decide +kernel) rfl
theorem b_LL_lawz_1608 {C : CF} {d : Nat} {σ : HP} {a3 : Nat} {x6 : Int32} {l0 : Option Value} {l1 : Option Value} {l2 : Option Value} {l4 : Option Value} {l5 : Option Value} {l7 : Option Value} (h1 : aty (a3 % 64) = 2) (h2 : inR (0 : Int32) (alen (a3 % 64)) = true) : runF C d m_LL_lawz (1608, [l0, l1, l2, some (.ref a3), l4, l5, some (.int x6), l7], [], σ) = if (lg_cmp (gJ σ a3 (Int32.toNatClampNeg (0 : Int32))) (Int32.toInt64 x6)) = 0 then runF C d m_LL_lawz (1620, [l0, l1, l2, some (.ref a3), l4, l5, some (.int x6), l7], [], σ) else runF C d m_LL_lawz (1618, [l0, l1, l2, some (.ref a3), l4, l5, some (.int x6), l7], [], σ) := by
  refine (r_aloadn 3 (show decode (zb m_LL_lawz) 1608 = .ok (.aload_n 3, 1) from by decide +kernel) rfl).trans ?_
  refine (r_iconst (v := (0 : Int32)) (show decode (zb m_LL_lawz) 1609 = .ok (.iconst (0), 1) from by decide +kernel) (by decide)).trans ?_
  refine (r_lald (show decode (zb m_LL_lawz) 1610 = .ok (.laload, 1) from by decide +kernel) h1 h2).trans ?_
  refine (r_iload 6 (show decode (zb m_LL_lawz) 1611 = .ok (.iload 6, 2) from by decide +kernel) rfl).trans ?_
  refine (r_i2l (show decode (zb m_LL_lawz) 1613 = .ok (.i2l, 1) from by decide +kernel)).trans ?_
  refine (r_lcmp (show decode (zb m_LL_lawz) 1614 = .ok (.lcmp, 1) from by decide +kernel)).trans ?_
  exact r_if_eq 1620 (show decode (zb m_LL_lawz) 1615 = .ok (.ifCond .eq (5), 3) from by decide +kernel) rfl
theorem b_LL_lawz_1618 {C : CF} {d : Nat} {σ : HP} {l0 : Option Value} {l1 : Option Value} {l2 : Option Value} {l3 : Option Value} {l4 : Option Value} {l5 : Option Value} {l6 : Option Value} {l7 : Option Value}  : runF C d m_LL_lawz (1618, [l0, l1, l2, l3, l4, l5, l6, l7], [], σ) = some (.inl (some (.int (0 : Int32))), σ) := by
  refine (r_iconst (v := (0 : Int32)) (show decode (zb m_LL_lawz) 1618 = .ok (.iconst (0), 1) from by decide +kernel) (by decide)).trans ?_
  exact r_bret (show decode (zb m_LL_lawz) 1619 = .ok (.ireturn, 1) from by decide +kernel) rfl (by decide)
theorem b_LL_lawz_1620 {C : CF} {d : Nat} {σ : HP} {l0 : Option Value} {l1 : Option Value} {l2 : Option Value} {l3 : Option Value} {l4 : Option Value} {l5 : Option Value} {l6 : Option Value} {l7 : Option Value}  : runF C d m_LL_lawz (1620, [l0, l1, l2, l3, l4, l5, l6, l7], [], σ) = runF C d m_LL_lawz (2580, [l0, l1, l2, l3, l4, l5, l6, l7], [], σ) := by
  exact r_goto 2580 (show decode (zb m_LL_lawz) 1620 = .ok (.goto (960), 3) from by decide +kernel) rfl
theorem b_LL_lawz_1623 {C : CF} {d : Nat} {σ : HP} {a1 : Nat} {x4 : Int32} {a3 : Nat} {l2 : Option Value} {l5 : Option Value} {l6 : Option Value} {l7 : Option Value} (h1 : inR (x4 + (1 : Int32)) (hL σ) = true) (h2 : inR (x4 + (2 : Int32)) (hL σ) = true) (h3 : inR (x4 + (3 : Int32)) (hL σ) = true) : runF C d m_LL_lawz (1623, [some (.ref 18), some (.ref a1), l2, some (.ref a3), some (.int x4), l5, l6, l7], [], σ) = bkN C d m_LL_lawz 1643 [some (.ref 18), some (.ref a1), l2, some (.ref a3), some (.int x4), l5, l6, l7] [] (C m_LL_breath [.ref a1, .int (gI σ 18 (Int32.toNatClampNeg (x4 + (1 : Int32)))), .int (gI σ 18 (Int32.toNatClampNeg (x4 + (2 : Int32)))), .int (gI σ 18 (Int32.toNatClampNeg (x4 + (3 : Int32)))), .ref a3] σ) := by
  refine (r_aloadn 1 (show decode (zb m_LL_lawz) 1623 = .ok (.aload_n 1, 1) from by decide +kernel) rfl).trans ?_
  refine (r_aloadn 0 (show decode (zb m_LL_lawz) 1624 = .ok (.aload_n 0, 1) from by decide +kernel) rfl).trans ?_
  refine (r_iload 4 (show decode (zb m_LL_lawz) 1625 = .ok (.iload 4, 2) from by decide +kernel) rfl).trans ?_
  refine (r_iconst (v := (1 : Int32)) (show decode (zb m_LL_lawz) 1627 = .ok (.iconst (1), 1) from by decide +kernel) (by decide)).trans ?_
  refine (r_iadd (show decode (zb m_LL_lawz) 1628 = .ok (.iadd, 1) from by decide +kernel)).trans ?_
  refine (r_iald18 (show decode (zb m_LL_lawz) 1629 = .ok (.iaload, 1) from by decide +kernel) h1).trans ?_
  refine (r_aloadn 0 (show decode (zb m_LL_lawz) 1630 = .ok (.aload_n 0, 1) from by decide +kernel) rfl).trans ?_
  refine (r_iload 4 (show decode (zb m_LL_lawz) 1631 = .ok (.iload 4, 2) from by decide +kernel) rfl).trans ?_
  refine (r_iconst (v := (2 : Int32)) (show decode (zb m_LL_lawz) 1633 = .ok (.iconst (2), 1) from by decide +kernel) (by decide)).trans ?_
  refine (r_iadd (show decode (zb m_LL_lawz) 1634 = .ok (.iadd, 1) from by decide +kernel)).trans ?_
  refine (r_iald18 (show decode (zb m_LL_lawz) 1635 = .ok (.iaload, 1) from by decide +kernel) h2).trans ?_
  refine (r_aloadn 0 (show decode (zb m_LL_lawz) 1636 = .ok (.aload_n 0, 1) from by decide +kernel) rfl).trans ?_
  refine (r_iload 4 (show decode (zb m_LL_lawz) 1637 = .ok (.iload 4, 2) from by decide +kernel) rfl).trans ?_
  refine (r_iconst (v := (3 : Int32)) (show decode (zb m_LL_lawz) 1639 = .ok (.iconst (3), 1) from by decide +kernel) (by decide)).trans ?_
  refine (r_iadd (show decode (zb m_LL_lawz) 1640 = .ok (.iadd, 1) from by decide +kernel)).trans ?_
  refine (r_iald18 (show decode (zb m_LL_lawz) 1641 = .ok (.iaload, 1) from by decide +kernel) h3).trans ?_
  refine (r_aloadn 3 (show decode (zb m_LL_lawz) 1642 = .ok (.aload_n 3, 1) from by decide +kernel) rfl).trans ?_
  exact r_stat (args := [.ref a1, .int (gI σ 18 (Int32.toNatClampNeg (x4 + (1 : Int32)))), .int (gI σ 18 (Int32.toNatClampNeg (x4 + (2 : Int32)))), .int (gI σ 18 (Int32.toNatClampNeg (x4 + (3 : Int32)))), .ref a3]) (rest := []) (show decode (zb m_LL_lawz) 1643 = .ok (.invokestatic 202, 3) from by decide +kernel) rfl (by decide) rfl rfl
theorem b_LL_lawz_1646 {C : CF} {d : Nat} {σ : HP} {s0 : Int32} {a2 : Nat} {x4 : Int32} {l1 : Option Value} {l3 : Option Value} {l5 : Option Value} {l6 : Option Value} {l7 : Option Value} (h1 : inR (x4 + (1 : Int32)) (hL σ) = true) (h2 : inR (x4 + (2 : Int32)) (hL σ) = true) (h3 : inR (x4 + (3 : Int32)) (hL σ) = true) (h4 : a2 % 64 = 12) : runF C d m_LL_lawz (1646, [some (.ref 18), l1, some (.ref a2), l3, some (.int x4), l5, l6, l7], [.int s0], σ) = bk C d m_LL_lawz 1667 [some (.ref 18), l1, some (.ref a2), l3, some (.int x4), some (.int s0), l6, l7] [] (C m_Mo_breath [.ref a2, .int (gI σ 18 (Int32.toNatClampNeg (x4 + (1 : Int32)))), .int (gI σ 18 (Int32.toNatClampNeg (x4 + (2 : Int32)))), .int (gI σ 18 (Int32.toNatClampNeg (x4 + (3 : Int32))))] σ) := by
  refine (r_istore 5 (show decode (zb m_LL_lawz) 1646 = .ok (.istore 5, 2) from by decide +kernel) rfl).trans ?_
  refine (r_aloadn 2 (show decode (zb m_LL_lawz) 1648 = .ok (.aload_n 2, 1) from by decide +kernel) rfl).trans ?_
  refine (r_aloadn 0 (show decode (zb m_LL_lawz) 1649 = .ok (.aload_n 0, 1) from by decide +kernel) rfl).trans ?_
  refine (r_iload 4 (show decode (zb m_LL_lawz) 1650 = .ok (.iload 4, 2) from by decide +kernel) rfl).trans ?_
  refine (r_iconst (v := (1 : Int32)) (show decode (zb m_LL_lawz) 1652 = .ok (.iconst (1), 1) from by decide +kernel) (by decide)).trans ?_
  refine (r_iadd (show decode (zb m_LL_lawz) 1653 = .ok (.iadd, 1) from by decide +kernel)).trans ?_
  refine (r_iald18 (show decode (zb m_LL_lawz) 1654 = .ok (.iaload, 1) from by decide +kernel) h1).trans ?_
  refine (r_aloadn 0 (show decode (zb m_LL_lawz) 1655 = .ok (.aload_n 0, 1) from by decide +kernel) rfl).trans ?_
  refine (r_iload 4 (show decode (zb m_LL_lawz) 1656 = .ok (.iload 4, 2) from by decide +kernel) rfl).trans ?_
  refine (r_iconst (v := (2 : Int32)) (show decode (zb m_LL_lawz) 1658 = .ok (.iconst (2), 1) from by decide +kernel) (by decide)).trans ?_
  refine (r_iadd (show decode (zb m_LL_lawz) 1659 = .ok (.iadd, 1) from by decide +kernel)).trans ?_
  refine (r_iald18 (show decode (zb m_LL_lawz) 1660 = .ok (.iaload, 1) from by decide +kernel) h2).trans ?_
  refine (r_aloadn 0 (show decode (zb m_LL_lawz) 1661 = .ok (.aload_n 0, 1) from by decide +kernel) rfl).trans ?_
  refine (r_iload 4 (show decode (zb m_LL_lawz) 1662 = .ok (.iload 4, 2) from by decide +kernel) rfl).trans ?_
  refine (r_iconst (v := (3 : Int32)) (show decode (zb m_LL_lawz) 1664 = .ok (.iconst (3), 1) from by decide +kernel) (by decide)).trans ?_
  refine (r_iadd (show decode (zb m_LL_lawz) 1665 = .ok (.iadd, 1) from by decide +kernel)).trans ?_
  refine (r_iald18 (show decode (zb m_LL_lawz) 1666 = .ok (.iaload, 1) from by decide +kernel) h3).trans ?_
  exact r_virt (args := [.int (gI σ 18 (Int32.toNatClampNeg (x4 + (1 : Int32)))), .int (gI σ 18 (Int32.toNatClampNeg (x4 + (2 : Int32)))), .int (gI σ 18 (Int32.toNatClampNeg (x4 + (3 : Int32))))]) (rest := []) (show decode (zb m_LL_lawz) 1667 = .ok (.invokevirtual 204, 3) from by decide +kernel) rfl rfl rfl h4
theorem b_LL_lawz_1670 {C : CF} {d : Nat} {σ : HP} {s0 : Int32} {a2 : Nat} {l0 : Option Value} {l1 : Option Value} {l3 : Option Value} {l4 : Option Value} {l5 : Option Value} {l6 : Option Value} {l7 : Option Value} (h1 : a2 % 64 = 12) : runF C d m_LL_lawz (1670, [l0, l1, some (.ref a2), l3, l4, l5, l6, l7], [.int s0], σ) = bk C d m_LL_lawz 1673 [l0, l1, some (.ref a2), l3, l4, l5, some (.int s0), l7] [] (C m_Mo_thrown [.ref a2] σ) := by
  refine (r_istore 6 (show decode (zb m_LL_lawz) 1670 = .ok (.istore 6, 2) from by decide +kernel) rfl).trans ?_
  refine (r_aloadn 2 (show decode (zb m_LL_lawz) 1672 = .ok (.aload_n 2, 1) from by decide +kernel) rfl).trans ?_
  exact r_virt (args := []) (rest := []) (show decode (zb m_LL_lawz) 1673 = .ok (.invokevirtual 128, 3) from by decide +kernel) rfl rfl rfl h1
theorem b_LL_lawz_1676 {C : CF} {d : Nat} {σ : HP} {s0 : Int32} {x5 : Int32} {l0 : Option Value} {l1 : Option Value} {l2 : Option Value} {l3 : Option Value} {l4 : Option Value} {l6 : Option Value} {l7 : Option Value}  : runF C d m_LL_lawz (1676, [l0, l1, l2, l3, l4, some (.int x5), l6, l7], [.int s0], σ) = if s0 = x5 then runF C d m_LL_lawz (1683, [l0, l1, l2, l3, l4, some (.int x5), l6, l7], [], σ) else runF C d m_LL_lawz (1681, [l0, l1, l2, l3, l4, some (.int x5), l6, l7], [], σ) := by
  refine (r_iload 5 (show decode (zb m_LL_lawz) 1676 = .ok (.iload 5, 2) from by decide +kernel) rfl).trans ?_
  exact r_icmp_eq 1683 (show decode (zb m_LL_lawz) 1678 = .ok (.if_icmp .eq (5), 3) from by decide +kernel) rfl
theorem b_LL_lawz_1681 {C : CF} {d : Nat} {σ : HP} {l0 : Option Value} {l1 : Option Value} {l2 : Option Value} {l3 : Option Value} {l4 : Option Value} {l5 : Option Value} {l6 : Option Value} {l7 : Option Value}  : runF C d m_LL_lawz (1681, [l0, l1, l2, l3, l4, l5, l6, l7], [], σ) = some (.inl (some (.int (0 : Int32))), σ) := by
  refine (r_iconst (v := (0 : Int32)) (show decode (zb m_LL_lawz) 1681 = .ok (.iconst (0), 1) from by decide +kernel) (by decide)).trans ?_
  exact r_bret (show decode (zb m_LL_lawz) 1682 = .ok (.ireturn, 1) from by decide +kernel) rfl (by decide)
theorem b_LL_lawz_1683 {C : CF} {d : Nat} {σ : HP} {x5 : Int32} {l0 : Option Value} {l1 : Option Value} {l2 : Option Value} {l3 : Option Value} {l4 : Option Value} {l6 : Option Value} {l7 : Option Value}  : runF C d m_LL_lawz (1683, [l0, l1, l2, l3, l4, some (.int x5), l6, l7], [], σ) = if ¬ x5 = 0 then runF C d m_LL_lawz (1700, [l0, l1, l2, l3, l4, some (.int x5), l6, l7], [], σ) else runF C d m_LL_lawz (1688, [l0, l1, l2, l3, l4, some (.int x5), l6, l7], [], σ) := by
  refine (r_iload 5 (show decode (zb m_LL_lawz) 1683 = .ok (.iload 5, 2) from by decide +kernel) rfl).trans ?_
  exact r_if_ne 1700 (show decode (zb m_LL_lawz) 1685 = .ok (.ifCond .ne (15), 3) from by decide +kernel) rfl
theorem b_LL_lawz_1688 {C : CF} {d : Nat} {σ : HP} {a3 : Nat} {x6 : Int32} {l0 : Option Value} {l1 : Option Value} {l2 : Option Value} {l4 : Option Value} {l5 : Option Value} {l7 : Option Value} (h1 : aty (a3 % 64) = 2) (h2 : inR (0 : Int32) (alen (a3 % 64)) = true) : runF C d m_LL_lawz (1688, [l0, l1, l2, some (.ref a3), l4, l5, some (.int x6), l7], [], σ) = if (lg_cmp (gJ σ a3 (Int32.toNatClampNeg (0 : Int32))) (Int32.toInt64 x6)) = 0 then runF C d m_LL_lawz (1700, [l0, l1, l2, some (.ref a3), l4, l5, some (.int x6), l7], [], σ) else runF C d m_LL_lawz (1698, [l0, l1, l2, some (.ref a3), l4, l5, some (.int x6), l7], [], σ) := by
  refine (r_aloadn 3 (show decode (zb m_LL_lawz) 1688 = .ok (.aload_n 3, 1) from by decide +kernel) rfl).trans ?_
  refine (r_iconst (v := (0 : Int32)) (show decode (zb m_LL_lawz) 1689 = .ok (.iconst (0), 1) from by decide +kernel) (by decide)).trans ?_
  refine (r_lald (show decode (zb m_LL_lawz) 1690 = .ok (.laload, 1) from by decide +kernel) h1 h2).trans ?_
  refine (r_iload 6 (show decode (zb m_LL_lawz) 1691 = .ok (.iload 6, 2) from by decide +kernel) rfl).trans ?_
  refine (r_i2l (show decode (zb m_LL_lawz) 1693 = .ok (.i2l, 1) from by decide +kernel)).trans ?_
  refine (r_lcmp (show decode (zb m_LL_lawz) 1694 = .ok (.lcmp, 1) from by decide +kernel)).trans ?_
  exact r_if_eq 1700 (show decode (zb m_LL_lawz) 1695 = .ok (.ifCond .eq (5), 3) from by decide +kernel) rfl
theorem b_LL_lawz_1698 {C : CF} {d : Nat} {σ : HP} {l0 : Option Value} {l1 : Option Value} {l2 : Option Value} {l3 : Option Value} {l4 : Option Value} {l5 : Option Value} {l6 : Option Value} {l7 : Option Value}  : runF C d m_LL_lawz (1698, [l0, l1, l2, l3, l4, l5, l6, l7], [], σ) = some (.inl (some (.int (0 : Int32))), σ) := by
  refine (r_iconst (v := (0 : Int32)) (show decode (zb m_LL_lawz) 1698 = .ok (.iconst (0), 1) from by decide +kernel) (by decide)).trans ?_
  exact r_bret (show decode (zb m_LL_lawz) 1699 = .ok (.ireturn, 1) from by decide +kernel) rfl (by decide)
theorem b_LL_lawz_1700 {C : CF} {d : Nat} {σ : HP} {l0 : Option Value} {l1 : Option Value} {l2 : Option Value} {l3 : Option Value} {l4 : Option Value} {l5 : Option Value} {l6 : Option Value} {l7 : Option Value}  : runF C d m_LL_lawz (1700, [l0, l1, l2, l3, l4, l5, l6, l7], [], σ) = runF C d m_LL_lawz (2580, [l0, l1, l2, l3, l4, l5, l6, l7], [], σ) := by
  exact r_goto 2580 (show decode (zb m_LL_lawz) 1700 = .ok (.goto (880), 3) from by decide +kernel) rfl
theorem b_LL_lawz_1703 {C : CF} {d : Nat} {σ : HP} {a1 : Nat} {x4 : Int32} {a3 : Nat} {l2 : Option Value} {l5 : Option Value} {l6 : Option Value} {l7 : Option Value} (h1 : inR (x4 + (1 : Int32)) (hL σ) = true) : runF C d m_LL_lawz (1703, [some (.ref 18), some (.ref a1), l2, some (.ref a3), some (.int x4), l5, l6, l7], [], σ) = bkN C d m_LL_lawz 1711 [some (.ref 18), some (.ref a1), l2, some (.ref a3), some (.int x4), l5, l6, l7] [] (C m_LL_heaviest [.ref a1, .int (gI σ 18 (Int32.toNatClampNeg (x4 + (1 : Int32)))), .ref a3] σ) := by
  refine (r_aloadn 1 (show decode (zb m_LL_lawz) 1703 = .ok (.aload_n 1, 1) from by decide +kernel) rfl).trans ?_
  refine (r_aloadn 0 (show decode (zb m_LL_lawz) 1704 = .ok (.aload_n 0, 1) from by decide +kernel) rfl).trans ?_
  refine (r_iload 4 (show decode (zb m_LL_lawz) 1705 = .ok (.iload 4, 2) from by decide +kernel) rfl).trans ?_
  refine (r_iconst (v := (1 : Int32)) (show decode (zb m_LL_lawz) 1707 = .ok (.iconst (1), 1) from by decide +kernel) (by decide)).trans ?_
  refine (r_iadd (show decode (zb m_LL_lawz) 1708 = .ok (.iadd, 1) from by decide +kernel)).trans ?_
  refine (r_iald18 (show decode (zb m_LL_lawz) 1709 = .ok (.iaload, 1) from by decide +kernel) h1).trans ?_
  refine (r_aloadn 3 (show decode (zb m_LL_lawz) 1710 = .ok (.aload_n 3, 1) from by decide +kernel) rfl).trans ?_
  exact r_stat (args := [.ref a1, .int (gI σ 18 (Int32.toNatClampNeg (x4 + (1 : Int32)))), .ref a3]) (rest := []) (show decode (zb m_LL_lawz) 1711 = .ok (.invokestatic 205, 3) from by decide +kernel) rfl (by decide) rfl rfl
theorem b_LL_lawz_1714 {C : CF} {d : Nat} {σ : HP} {s0 : Int32} {a2 : Nat} {x4 : Int32} {l1 : Option Value} {l3 : Option Value} {l5 : Option Value} {l6 : Option Value} {l7 : Option Value} (h1 : inR (x4 + (1 : Int32)) (hL σ) = true) (h2 : a2 % 64 = 12) : runF C d m_LL_lawz (1714, [some (.ref 18), l1, some (.ref a2), l3, some (.int x4), l5, l6, l7], [.int s0], σ) = bk C d m_LL_lawz 1723 [some (.ref 18), l1, some (.ref a2), l3, some (.int x4), some (.int s0), l6, l7] [] (C m_Mo_heaviest [.ref a2, .int (gI σ 18 (Int32.toNatClampNeg (x4 + (1 : Int32))))] σ) := by
  refine (r_istore 5 (show decode (zb m_LL_lawz) 1714 = .ok (.istore 5, 2) from by decide +kernel) rfl).trans ?_
  refine (r_aloadn 2 (show decode (zb m_LL_lawz) 1716 = .ok (.aload_n 2, 1) from by decide +kernel) rfl).trans ?_
  refine (r_aloadn 0 (show decode (zb m_LL_lawz) 1717 = .ok (.aload_n 0, 1) from by decide +kernel) rfl).trans ?_
  refine (r_iload 4 (show decode (zb m_LL_lawz) 1718 = .ok (.iload 4, 2) from by decide +kernel) rfl).trans ?_
  refine (r_iconst (v := (1 : Int32)) (show decode (zb m_LL_lawz) 1720 = .ok (.iconst (1), 1) from by decide +kernel) (by decide)).trans ?_
  refine (r_iadd (show decode (zb m_LL_lawz) 1721 = .ok (.iadd, 1) from by decide +kernel)).trans ?_
  refine (r_iald18 (show decode (zb m_LL_lawz) 1722 = .ok (.iaload, 1) from by decide +kernel) h1).trans ?_
  exact r_virt (args := [.int (gI σ 18 (Int32.toNatClampNeg (x4 + (1 : Int32))))]) (rest := []) (show decode (zb m_LL_lawz) 1723 = .ok (.invokevirtual 207, 3) from by decide +kernel) rfl rfl rfl h2
theorem b_LL_lawz_1726 {C : CF} {d : Nat} {σ : HP} {s0 : Int32} {a2 : Nat} {l0 : Option Value} {l1 : Option Value} {l3 : Option Value} {l4 : Option Value} {l5 : Option Value} {l6 : Option Value} {l7 : Option Value} (h1 : a2 % 64 = 12) : runF C d m_LL_lawz (1726, [l0, l1, some (.ref a2), l3, l4, l5, l6, l7], [.int s0], σ) = bk C d m_LL_lawz 1729 [l0, l1, some (.ref a2), l3, l4, l5, some (.int s0), l7] [] (C m_Mo_thrown [.ref a2] σ) := by
  refine (r_istore 6 (show decode (zb m_LL_lawz) 1726 = .ok (.istore 6, 2) from by decide +kernel) rfl).trans ?_
  refine (r_aloadn 2 (show decode (zb m_LL_lawz) 1728 = .ok (.aload_n 2, 1) from by decide +kernel) rfl).trans ?_
  exact r_virt (args := []) (rest := []) (show decode (zb m_LL_lawz) 1729 = .ok (.invokevirtual 128, 3) from by decide +kernel) rfl rfl rfl h1
theorem b_LL_lawz_1732 {C : CF} {d : Nat} {σ : HP} {s0 : Int32} {x5 : Int32} {l0 : Option Value} {l1 : Option Value} {l2 : Option Value} {l3 : Option Value} {l4 : Option Value} {l6 : Option Value} {l7 : Option Value}  : runF C d m_LL_lawz (1732, [l0, l1, l2, l3, l4, some (.int x5), l6, l7], [.int s0], σ) = if s0 = x5 then runF C d m_LL_lawz (1739, [l0, l1, l2, l3, l4, some (.int x5), l6, l7], [], σ) else runF C d m_LL_lawz (1737, [l0, l1, l2, l3, l4, some (.int x5), l6, l7], [], σ) := by
  refine (r_iload 5 (show decode (zb m_LL_lawz) 1732 = .ok (.iload 5, 2) from by decide +kernel) rfl).trans ?_
  exact r_icmp_eq 1739 (show decode (zb m_LL_lawz) 1734 = .ok (.if_icmp .eq (5), 3) from by decide +kernel) rfl
theorem b_LL_lawz_1737 {C : CF} {d : Nat} {σ : HP} {l0 : Option Value} {l1 : Option Value} {l2 : Option Value} {l3 : Option Value} {l4 : Option Value} {l5 : Option Value} {l6 : Option Value} {l7 : Option Value}  : runF C d m_LL_lawz (1737, [l0, l1, l2, l3, l4, l5, l6, l7], [], σ) = some (.inl (some (.int (0 : Int32))), σ) := by
  refine (r_iconst (v := (0 : Int32)) (show decode (zb m_LL_lawz) 1737 = .ok (.iconst (0), 1) from by decide +kernel) (by decide)).trans ?_
  exact r_bret (show decode (zb m_LL_lawz) 1738 = .ok (.ireturn, 1) from by decide +kernel) rfl (by decide)
theorem b_LL_lawz_1739 {C : CF} {d : Nat} {σ : HP} {x5 : Int32} {l0 : Option Value} {l1 : Option Value} {l2 : Option Value} {l3 : Option Value} {l4 : Option Value} {l6 : Option Value} {l7 : Option Value}  : runF C d m_LL_lawz (1739, [l0, l1, l2, l3, l4, some (.int x5), l6, l7], [], σ) = if ¬ x5 = 0 then runF C d m_LL_lawz (1756, [l0, l1, l2, l3, l4, some (.int x5), l6, l7], [], σ) else runF C d m_LL_lawz (1744, [l0, l1, l2, l3, l4, some (.int x5), l6, l7], [], σ) := by
  refine (r_iload 5 (show decode (zb m_LL_lawz) 1739 = .ok (.iload 5, 2) from by decide +kernel) rfl).trans ?_
  exact r_if_ne 1756 (show decode (zb m_LL_lawz) 1741 = .ok (.ifCond .ne (15), 3) from by decide +kernel) rfl
theorem b_LL_lawz_1744 {C : CF} {d : Nat} {σ : HP} {a3 : Nat} {x6 : Int32} {l0 : Option Value} {l1 : Option Value} {l2 : Option Value} {l4 : Option Value} {l5 : Option Value} {l7 : Option Value} (h1 : aty (a3 % 64) = 2) (h2 : inR (0 : Int32) (alen (a3 % 64)) = true) : runF C d m_LL_lawz (1744, [l0, l1, l2, some (.ref a3), l4, l5, some (.int x6), l7], [], σ) = if (lg_cmp (gJ σ a3 (Int32.toNatClampNeg (0 : Int32))) (Int32.toInt64 x6)) = 0 then runF C d m_LL_lawz (1756, [l0, l1, l2, some (.ref a3), l4, l5, some (.int x6), l7], [], σ) else runF C d m_LL_lawz (1754, [l0, l1, l2, some (.ref a3), l4, l5, some (.int x6), l7], [], σ) := by
  refine (r_aloadn 3 (show decode (zb m_LL_lawz) 1744 = .ok (.aload_n 3, 1) from by decide +kernel) rfl).trans ?_
  refine (r_iconst (v := (0 : Int32)) (show decode (zb m_LL_lawz) 1745 = .ok (.iconst (0), 1) from by decide +kernel) (by decide)).trans ?_
  refine (r_lald (show decode (zb m_LL_lawz) 1746 = .ok (.laload, 1) from by decide +kernel) h1 h2).trans ?_
  refine (r_iload 6 (show decode (zb m_LL_lawz) 1747 = .ok (.iload 6, 2) from by decide +kernel) rfl).trans ?_
  refine (r_i2l (show decode (zb m_LL_lawz) 1749 = .ok (.i2l, 1) from by decide +kernel)).trans ?_
  refine (r_lcmp (show decode (zb m_LL_lawz) 1750 = .ok (.lcmp, 1) from by decide +kernel)).trans ?_
  exact r_if_eq 1756 (show decode (zb m_LL_lawz) 1751 = .ok (.ifCond .eq (5), 3) from by decide +kernel) rfl
theorem b_LL_lawz_1754 {C : CF} {d : Nat} {σ : HP} {l0 : Option Value} {l1 : Option Value} {l2 : Option Value} {l3 : Option Value} {l4 : Option Value} {l5 : Option Value} {l6 : Option Value} {l7 : Option Value}  : runF C d m_LL_lawz (1754, [l0, l1, l2, l3, l4, l5, l6, l7], [], σ) = some (.inl (some (.int (0 : Int32))), σ) := by
  refine (r_iconst (v := (0 : Int32)) (show decode (zb m_LL_lawz) 1754 = .ok (.iconst (0), 1) from by decide +kernel) (by decide)).trans ?_
  exact r_bret (show decode (zb m_LL_lawz) 1755 = .ok (.ireturn, 1) from by decide +kernel) rfl (by decide)
theorem b_LL_lawz_1756 {C : CF} {d : Nat} {σ : HP} {l0 : Option Value} {l1 : Option Value} {l2 : Option Value} {l3 : Option Value} {l4 : Option Value} {l5 : Option Value} {l6 : Option Value} {l7 : Option Value}  : runF C d m_LL_lawz (1756, [l0, l1, l2, l3, l4, l5, l6, l7], [], σ) = runF C d m_LL_lawz (2580, [l0, l1, l2, l3, l4, l5, l6, l7], [], σ) := by
  exact r_goto 2580 (show decode (zb m_LL_lawz) 1756 = .ok (.goto (824), 3) from by decide +kernel) rfl
theorem b_LL_lawz_1759 {C : CF} {d : Nat} {σ : HP} {a1 : Nat} {l0 : Option Value} {l2 : Option Value} {l3 : Option Value} {l4 : Option Value} {l5 : Option Value} {l6 : Option Value} {l7 : Option Value} (h1 : a1 % 64 = 11) : runF C d m_LL_lawz (1759, [l0, some (.ref a1), l2, l3, l4, l5, l6, l7], [], σ) = bk C d m_LL_lawz 1760 [l0, some (.ref a1), l2, l3, l4, l5, l6, l7] [] (C m_PL_waiting [.ref a1] σ) := by
  refine (r_aloadn 1 (show decode (zb m_LL_lawz) 1759 = .ok (.aload_n 1, 1) from by decide +kernel) rfl).trans ?_
  exact r_virt (args := []) (rest := []) (show decode (zb m_LL_lawz) 1760 = .ok (.invokevirtual 208, 3) from by decide +kernel) rfl rfl rfl h1
theorem b_LL_lawz_1763 {C : CF} {d : Nat} {σ : HP} {s0 : Int32} {a2 : Nat} {l0 : Option Value} {l1 : Option Value} {l3 : Option Value} {l4 : Option Value} {l5 : Option Value} {l6 : Option Value} {l7 : Option Value} (h1 : a2 % 64 = 12) : runF C d m_LL_lawz (1763, [l0, l1, some (.ref a2), l3, l4, l5, l6, l7], [.int s0], σ) = bk C d m_LL_lawz 1764 [l0, l1, some (.ref a2), l3, l4, l5, l6, l7] [.int s0] (C m_Mo_waiting [.ref a2] σ) := by
  refine (r_aloadn 2 (show decode (zb m_LL_lawz) 1763 = .ok (.aload_n 2, 1) from by decide +kernel) rfl).trans ?_
  exact r_virt (args := []) (rest := [.int s0]) (show decode (zb m_LL_lawz) 1764 = .ok (.invokevirtual 211, 3) from by decide +kernel) rfl rfl rfl h1
theorem b_LL_lawz_1767 {C : CF} {d : Nat} {σ : HP} {s0 : Int32} {s1 : Int32} {l0 : Option Value} {l1 : Option Value} {l2 : Option Value} {l3 : Option Value} {l4 : Option Value} {l5 : Option Value} {l6 : Option Value} {l7 : Option Value}  : runF C d m_LL_lawz (1767, [l0, l1, l2, l3, l4, l5, l6, l7], [.int s0, .int s1], σ) = if s1 = s0 then runF C d m_LL_lawz (2580, [l0, l1, l2, l3, l4, l5, l6, l7], [], σ) else runF C d m_LL_lawz (1770, [l0, l1, l2, l3, l4, l5, l6, l7], [], σ) := by
  exact r_icmp_eq 2580 (show decode (zb m_LL_lawz) 1767 = .ok (.if_icmp .eq (813), 3) from by decide +kernel) rfl
theorem b_LL_lawz_1770 {C : CF} {d : Nat} {σ : HP} {l0 : Option Value} {l1 : Option Value} {l2 : Option Value} {l3 : Option Value} {l4 : Option Value} {l5 : Option Value} {l6 : Option Value} {l7 : Option Value}  : runF C d m_LL_lawz (1770, [l0, l1, l2, l3, l4, l5, l6, l7], [], σ) = some (.inl (some (.int (0 : Int32))), σ) := by
  refine (r_iconst (v := (0 : Int32)) (show decode (zb m_LL_lawz) 1770 = .ok (.iconst (0), 1) from by decide +kernel) (by decide)).trans ?_
  exact r_bret (show decode (zb m_LL_lawz) 1771 = .ok (.ireturn, 1) from by decide +kernel) rfl (by decide)
theorem b_LL_lawz_1772 {C : CF} {d : Nat} {σ : HP} {a1 : Nat} {x4 : Int32} {a3 : Nat} {l2 : Option Value} {l5 : Option Value} {l6 : Option Value} {l7 : Option Value} (h1 : inR (x4 + (1 : Int32)) (hL σ) = true) : runF C d m_LL_lawz (1772, [some (.ref 18), some (.ref a1), l2, some (.ref a3), some (.int x4), l5, l6, l7], [], σ) = bkN C d m_LL_lawz 1780 [some (.ref 18), some (.ref a1), l2, some (.ref a3), some (.int x4), l5, l6, l7] [] (C m_LL_floor [.ref a1, .int (gI σ 18 (Int32.toNatClampNeg (x4 + (1 : Int32)))), .ref a3] σ) := by
  refine (r_aloadn 1 (show decode (zb m_LL_lawz) 1772 = .ok (.aload_n 1, 1) from by decide +kernel) rfl).trans ?_
  refine (r_aloadn 0 (show decode (zb m_LL_lawz) 1773 = .ok (.aload_n 0, 1) from by decide +kernel) rfl).trans ?_
  refine (r_iload 4 (show decode (zb m_LL_lawz) 1774 = .ok (.iload 4, 2) from by decide +kernel) rfl).trans ?_
  refine (r_iconst (v := (1 : Int32)) (show decode (zb m_LL_lawz) 1776 = .ok (.iconst (1), 1) from by decide +kernel) (by decide)).trans ?_
  refine (r_iadd (show decode (zb m_LL_lawz) 1777 = .ok (.iadd, 1) from by decide +kernel)).trans ?_
  refine (r_iald18 (show decode (zb m_LL_lawz) 1778 = .ok (.iaload, 1) from by decide +kernel) h1).trans ?_
  refine (r_aloadn 3 (show decode (zb m_LL_lawz) 1779 = .ok (.aload_n 3, 1) from by decide +kernel) rfl).trans ?_
  exact r_stat (args := [.ref a1, .int (gI σ 18 (Int32.toNatClampNeg (x4 + (1 : Int32)))), .ref a3]) (rest := []) (show decode (zb m_LL_lawz) 1780 = .ok (.invokestatic 212, 3) from by decide +kernel) rfl (by decide) rfl rfl
theorem b_LL_lawz_1783 {C : CF} {d : Nat} {σ : HP} {s0 : Int32} {a2 : Nat} {x4 : Int32} {l1 : Option Value} {l3 : Option Value} {l5 : Option Value} {l6 : Option Value} {l7 : Option Value} (h1 : inR (x4 + (1 : Int32)) (hL σ) = true) (h2 : a2 % 64 = 12) : runF C d m_LL_lawz (1783, [some (.ref 18), l1, some (.ref a2), l3, some (.int x4), l5, l6, l7], [.int s0], σ) = bk C d m_LL_lawz 1792 [some (.ref 18), l1, some (.ref a2), l3, some (.int x4), some (.int s0), l6, l7] [] (C m_Mo_floor [.ref a2, .int (gI σ 18 (Int32.toNatClampNeg (x4 + (1 : Int32))))] σ) := by
  refine (r_istore 5 (show decode (zb m_LL_lawz) 1783 = .ok (.istore 5, 2) from by decide +kernel) rfl).trans ?_
  refine (r_aloadn 2 (show decode (zb m_LL_lawz) 1785 = .ok (.aload_n 2, 1) from by decide +kernel) rfl).trans ?_
  refine (r_aloadn 0 (show decode (zb m_LL_lawz) 1786 = .ok (.aload_n 0, 1) from by decide +kernel) rfl).trans ?_
  refine (r_iload 4 (show decode (zb m_LL_lawz) 1787 = .ok (.iload 4, 2) from by decide +kernel) rfl).trans ?_
  refine (r_iconst (v := (1 : Int32)) (show decode (zb m_LL_lawz) 1789 = .ok (.iconst (1), 1) from by decide +kernel) (by decide)).trans ?_
  refine (r_iadd (show decode (zb m_LL_lawz) 1790 = .ok (.iadd, 1) from by decide +kernel)).trans ?_
  refine (r_iald18 (show decode (zb m_LL_lawz) 1791 = .ok (.iaload, 1) from by decide +kernel) h1).trans ?_
  exact r_virt (args := [.int (gI σ 18 (Int32.toNatClampNeg (x4 + (1 : Int32))))]) (rest := []) (show decode (zb m_LL_lawz) 1792 = .ok (.invokevirtual 214, 3) from by decide +kernel) rfl rfl rfl h2
theorem b_LL_lawz_1795 {C : CF} {d : Nat} {σ : HP} {s0 : Int32} {a2 : Nat} {l0 : Option Value} {l1 : Option Value} {l3 : Option Value} {l4 : Option Value} {l5 : Option Value} {l6 : Option Value} {l7 : Option Value} (h1 : a2 % 64 = 12) : runF C d m_LL_lawz (1795, [l0, l1, some (.ref a2), l3, l4, l5, l6, l7], [.int s0], σ) = bk C d m_LL_lawz 1798 [l0, l1, some (.ref a2), l3, l4, l5, some (.int s0), l7] [] (C m_Mo_thrown [.ref a2] σ) := by
  refine (r_istore 6 (show decode (zb m_LL_lawz) 1795 = .ok (.istore 6, 2) from by decide +kernel) rfl).trans ?_
  refine (r_aloadn 2 (show decode (zb m_LL_lawz) 1797 = .ok (.aload_n 2, 1) from by decide +kernel) rfl).trans ?_
  exact r_virt (args := []) (rest := []) (show decode (zb m_LL_lawz) 1798 = .ok (.invokevirtual 128, 3) from by decide +kernel) rfl rfl rfl h1
theorem b_LL_lawz_1801 {C : CF} {d : Nat} {σ : HP} {s0 : Int32} {x5 : Int32} {l0 : Option Value} {l1 : Option Value} {l2 : Option Value} {l3 : Option Value} {l4 : Option Value} {l6 : Option Value} {l7 : Option Value}  : runF C d m_LL_lawz (1801, [l0, l1, l2, l3, l4, some (.int x5), l6, l7], [.int s0], σ) = if s0 = x5 then runF C d m_LL_lawz (1808, [l0, l1, l2, l3, l4, some (.int x5), l6, l7], [], σ) else runF C d m_LL_lawz (1806, [l0, l1, l2, l3, l4, some (.int x5), l6, l7], [], σ) := by
  refine (r_iload 5 (show decode (zb m_LL_lawz) 1801 = .ok (.iload 5, 2) from by decide +kernel) rfl).trans ?_
  exact r_icmp_eq 1808 (show decode (zb m_LL_lawz) 1803 = .ok (.if_icmp .eq (5), 3) from by decide +kernel) rfl
theorem b_LL_lawz_1806 {C : CF} {d : Nat} {σ : HP} {l0 : Option Value} {l1 : Option Value} {l2 : Option Value} {l3 : Option Value} {l4 : Option Value} {l5 : Option Value} {l6 : Option Value} {l7 : Option Value}  : runF C d m_LL_lawz (1806, [l0, l1, l2, l3, l4, l5, l6, l7], [], σ) = some (.inl (some (.int (0 : Int32))), σ) := by
  refine (r_iconst (v := (0 : Int32)) (show decode (zb m_LL_lawz) 1806 = .ok (.iconst (0), 1) from by decide +kernel) (by decide)).trans ?_
  exact r_bret (show decode (zb m_LL_lawz) 1807 = .ok (.ireturn, 1) from by decide +kernel) rfl (by decide)
theorem b_LL_lawz_1808 {C : CF} {d : Nat} {σ : HP} {x5 : Int32} {l0 : Option Value} {l1 : Option Value} {l2 : Option Value} {l3 : Option Value} {l4 : Option Value} {l6 : Option Value} {l7 : Option Value}  : runF C d m_LL_lawz (1808, [l0, l1, l2, l3, l4, some (.int x5), l6, l7], [], σ) = if ¬ x5 = 0 then runF C d m_LL_lawz (1825, [l0, l1, l2, l3, l4, some (.int x5), l6, l7], [], σ) else runF C d m_LL_lawz (1813, [l0, l1, l2, l3, l4, some (.int x5), l6, l7], [], σ) := by
  refine (r_iload 5 (show decode (zb m_LL_lawz) 1808 = .ok (.iload 5, 2) from by decide +kernel) rfl).trans ?_
  exact r_if_ne 1825 (show decode (zb m_LL_lawz) 1810 = .ok (.ifCond .ne (15), 3) from by decide +kernel) rfl
theorem b_LL_lawz_1813 {C : CF} {d : Nat} {σ : HP} {a3 : Nat} {x6 : Int32} {l0 : Option Value} {l1 : Option Value} {l2 : Option Value} {l4 : Option Value} {l5 : Option Value} {l7 : Option Value} (h1 : aty (a3 % 64) = 2) (h2 : inR (0 : Int32) (alen (a3 % 64)) = true) : runF C d m_LL_lawz (1813, [l0, l1, l2, some (.ref a3), l4, l5, some (.int x6), l7], [], σ) = if (lg_cmp (gJ σ a3 (Int32.toNatClampNeg (0 : Int32))) (Int32.toInt64 x6)) = 0 then runF C d m_LL_lawz (1825, [l0, l1, l2, some (.ref a3), l4, l5, some (.int x6), l7], [], σ) else runF C d m_LL_lawz (1823, [l0, l1, l2, some (.ref a3), l4, l5, some (.int x6), l7], [], σ) := by
  refine (r_aloadn 3 (show decode (zb m_LL_lawz) 1813 = .ok (.aload_n 3, 1) from by decide +kernel) rfl).trans ?_
  refine (r_iconst (v := (0 : Int32)) (show decode (zb m_LL_lawz) 1814 = .ok (.iconst (0), 1) from by decide +kernel) (by decide)).trans ?_
  refine (r_lald (show decode (zb m_LL_lawz) 1815 = .ok (.laload, 1) from by decide +kernel) h1 h2).trans ?_
  refine (r_iload 6 (show decode (zb m_LL_lawz) 1816 = .ok (.iload 6, 2) from by decide +kernel) rfl).trans ?_
  refine (r_i2l (show decode (zb m_LL_lawz) 1818 = .ok (.i2l, 1) from by decide +kernel)).trans ?_
  refine (r_lcmp (show decode (zb m_LL_lawz) 1819 = .ok (.lcmp, 1) from by decide +kernel)).trans ?_
  exact r_if_eq 1825 (show decode (zb m_LL_lawz) 1820 = .ok (.ifCond .eq (5), 3) from by decide +kernel) rfl
theorem b_LL_lawz_1823 {C : CF} {d : Nat} {σ : HP} {l0 : Option Value} {l1 : Option Value} {l2 : Option Value} {l3 : Option Value} {l4 : Option Value} {l5 : Option Value} {l6 : Option Value} {l7 : Option Value}  : runF C d m_LL_lawz (1823, [l0, l1, l2, l3, l4, l5, l6, l7], [], σ) = some (.inl (some (.int (0 : Int32))), σ) := by
  refine (r_iconst (v := (0 : Int32)) (show decode (zb m_LL_lawz) 1823 = .ok (.iconst (0), 1) from by decide +kernel) (by decide)).trans ?_
  exact r_bret (show decode (zb m_LL_lawz) 1824 = .ok (.ireturn, 1) from by decide +kernel) rfl (by decide)
theorem b_LL_lawz_1825 {C : CF} {d : Nat} {σ : HP} {l0 : Option Value} {l1 : Option Value} {l2 : Option Value} {l3 : Option Value} {l4 : Option Value} {l5 : Option Value} {l6 : Option Value} {l7 : Option Value}  : runF C d m_LL_lawz (1825, [l0, l1, l2, l3, l4, l5, l6, l7], [], σ) = runF C d m_LL_lawz (2580, [l0, l1, l2, l3, l4, l5, l6, l7], [], σ) := by
  exact r_goto 2580 (show decode (zb m_LL_lawz) 1825 = .ok (.goto (755), 3) from by decide +kernel) rfl
theorem b_LL_lawz_1828 {C : CF} {d : Nat} {σ : HP} {a1 : Nat} {x4 : Int32} {a3 : Nat} {l2 : Option Value} {l5 : Option Value} {l6 : Option Value} {l7 : Option Value} (h1 : inR (x4 + (1 : Int32)) (hL σ) = true) (h2 : inR (x4 + (2 : Int32)) (hL σ) = true) : runF C d m_LL_lawz (1828, [some (.ref 18), some (.ref a1), l2, some (.ref a3), some (.int x4), l5, l6, l7], [], σ) = bkN C d m_LL_lawz 1842 [some (.ref 18), some (.ref a1), l2, some (.ref a3), some (.int x4), l5, l6, l7] [] (C m_LL_sweetest [.ref a1, .int (gI σ 18 (Int32.toNatClampNeg (x4 + (1 : Int32)))), .int (gI σ 18 (Int32.toNatClampNeg (x4 + (2 : Int32)))), .ref a3] σ) := by
  refine (r_aloadn 1 (show decode (zb m_LL_lawz) 1828 = .ok (.aload_n 1, 1) from by decide +kernel) rfl).trans ?_
  refine (r_aloadn 0 (show decode (zb m_LL_lawz) 1829 = .ok (.aload_n 0, 1) from by decide +kernel) rfl).trans ?_
  refine (r_iload 4 (show decode (zb m_LL_lawz) 1830 = .ok (.iload 4, 2) from by decide +kernel) rfl).trans ?_
  refine (r_iconst (v := (1 : Int32)) (show decode (zb m_LL_lawz) 1832 = .ok (.iconst (1), 1) from by decide +kernel) (by decide)).trans ?_
  refine (r_iadd (show decode (zb m_LL_lawz) 1833 = .ok (.iadd, 1) from by decide +kernel)).trans ?_
  refine (r_iald18 (show decode (zb m_LL_lawz) 1834 = .ok (.iaload, 1) from by decide +kernel) h1).trans ?_
  refine (r_aloadn 0 (show decode (zb m_LL_lawz) 1835 = .ok (.aload_n 0, 1) from by decide +kernel) rfl).trans ?_
  refine (r_iload 4 (show decode (zb m_LL_lawz) 1836 = .ok (.iload 4, 2) from by decide +kernel) rfl).trans ?_
  refine (r_iconst (v := (2 : Int32)) (show decode (zb m_LL_lawz) 1838 = .ok (.iconst (2), 1) from by decide +kernel) (by decide)).trans ?_
  refine (r_iadd (show decode (zb m_LL_lawz) 1839 = .ok (.iadd, 1) from by decide +kernel)).trans ?_
  refine (r_iald18 (show decode (zb m_LL_lawz) 1840 = .ok (.iaload, 1) from by decide +kernel) h2).trans ?_
  refine (r_aloadn 3 (show decode (zb m_LL_lawz) 1841 = .ok (.aload_n 3, 1) from by decide +kernel) rfl).trans ?_
  exact r_stat (args := [.ref a1, .int (gI σ 18 (Int32.toNatClampNeg (x4 + (1 : Int32)))), .int (gI σ 18 (Int32.toNatClampNeg (x4 + (2 : Int32)))), .ref a3]) (rest := []) (show decode (zb m_LL_lawz) 1842 = .ok (.invokestatic 215, 3) from by decide +kernel) rfl (by decide) rfl rfl
theorem b_LL_lawz_1845 {C : CF} {d : Nat} {σ : HP} {s0 : Int32} {a2 : Nat} {x4 : Int32} {l1 : Option Value} {l3 : Option Value} {l5 : Option Value} {l6 : Option Value} {l7 : Option Value} (h1 : inR (x4 + (1 : Int32)) (hL σ) = true) (h2 : inR (x4 + (2 : Int32)) (hL σ) = true) (h3 : a2 % 64 = 12) : runF C d m_LL_lawz (1845, [some (.ref 18), l1, some (.ref a2), l3, some (.int x4), l5, l6, l7], [.int s0], σ) = bk C d m_LL_lawz 1860 [some (.ref 18), l1, some (.ref a2), l3, some (.int x4), some (.int s0), l6, l7] [] (C m_Mo_sweetest [.ref a2, .int (gI σ 18 (Int32.toNatClampNeg (x4 + (1 : Int32)))), .int (gI σ 18 (Int32.toNatClampNeg (x4 + (2 : Int32))))] σ) := by
  refine (r_istore 5 (show decode (zb m_LL_lawz) 1845 = .ok (.istore 5, 2) from by decide +kernel) rfl).trans ?_
  refine (r_aloadn 2 (show decode (zb m_LL_lawz) 1847 = .ok (.aload_n 2, 1) from by decide +kernel) rfl).trans ?_
  refine (r_aloadn 0 (show decode (zb m_LL_lawz) 1848 = .ok (.aload_n 0, 1) from by decide +kernel) rfl).trans ?_
  refine (r_iload 4 (show decode (zb m_LL_lawz) 1849 = .ok (.iload 4, 2) from by decide +kernel) rfl).trans ?_
  refine (r_iconst (v := (1 : Int32)) (show decode (zb m_LL_lawz) 1851 = .ok (.iconst (1), 1) from by decide +kernel) (by decide)).trans ?_
  refine (r_iadd (show decode (zb m_LL_lawz) 1852 = .ok (.iadd, 1) from by decide +kernel)).trans ?_
  refine (r_iald18 (show decode (zb m_LL_lawz) 1853 = .ok (.iaload, 1) from by decide +kernel) h1).trans ?_
  refine (r_aloadn 0 (show decode (zb m_LL_lawz) 1854 = .ok (.aload_n 0, 1) from by decide +kernel) rfl).trans ?_
  refine (r_iload 4 (show decode (zb m_LL_lawz) 1855 = .ok (.iload 4, 2) from by decide +kernel) rfl).trans ?_
  refine (r_iconst (v := (2 : Int32)) (show decode (zb m_LL_lawz) 1857 = .ok (.iconst (2), 1) from by decide +kernel) (by decide)).trans ?_
  refine (r_iadd (show decode (zb m_LL_lawz) 1858 = .ok (.iadd, 1) from by decide +kernel)).trans ?_
  refine (r_iald18 (show decode (zb m_LL_lawz) 1859 = .ok (.iaload, 1) from by decide +kernel) h2).trans ?_
  exact r_virt (args := [.int (gI σ 18 (Int32.toNatClampNeg (x4 + (1 : Int32)))), .int (gI σ 18 (Int32.toNatClampNeg (x4 + (2 : Int32))))]) (rest := []) (show decode (zb m_LL_lawz) 1860 = .ok (.invokevirtual 217, 3) from by decide +kernel) rfl rfl rfl h3
theorem b_LL_lawz_1863 {C : CF} {d : Nat} {σ : HP} {s0 : Int32} {a2 : Nat} {l0 : Option Value} {l1 : Option Value} {l3 : Option Value} {l4 : Option Value} {l5 : Option Value} {l6 : Option Value} {l7 : Option Value} (h1 : a2 % 64 = 12) : runF C d m_LL_lawz (1863, [l0, l1, some (.ref a2), l3, l4, l5, l6, l7], [.int s0], σ) = bk C d m_LL_lawz 1866 [l0, l1, some (.ref a2), l3, l4, l5, some (.int s0), l7] [] (C m_Mo_thrown [.ref a2] σ) := by
  refine (r_istore 6 (show decode (zb m_LL_lawz) 1863 = .ok (.istore 6, 2) from by decide +kernel) rfl).trans ?_
  refine (r_aloadn 2 (show decode (zb m_LL_lawz) 1865 = .ok (.aload_n 2, 1) from by decide +kernel) rfl).trans ?_
  exact r_virt (args := []) (rest := []) (show decode (zb m_LL_lawz) 1866 = .ok (.invokevirtual 128, 3) from by decide +kernel) rfl rfl rfl h1
theorem b_LL_lawz_1869 {C : CF} {d : Nat} {σ : HP} {s0 : Int32} {x5 : Int32} {l0 : Option Value} {l1 : Option Value} {l2 : Option Value} {l3 : Option Value} {l4 : Option Value} {l6 : Option Value} {l7 : Option Value}  : runF C d m_LL_lawz (1869, [l0, l1, l2, l3, l4, some (.int x5), l6, l7], [.int s0], σ) = if s0 = x5 then runF C d m_LL_lawz (1876, [l0, l1, l2, l3, l4, some (.int x5), l6, l7], [], σ) else runF C d m_LL_lawz (1874, [l0, l1, l2, l3, l4, some (.int x5), l6, l7], [], σ) := by
  refine (r_iload 5 (show decode (zb m_LL_lawz) 1869 = .ok (.iload 5, 2) from by decide +kernel) rfl).trans ?_
  exact r_icmp_eq 1876 (show decode (zb m_LL_lawz) 1871 = .ok (.if_icmp .eq (5), 3) from by decide +kernel) rfl
theorem b_LL_lawz_1874 {C : CF} {d : Nat} {σ : HP} {l0 : Option Value} {l1 : Option Value} {l2 : Option Value} {l3 : Option Value} {l4 : Option Value} {l5 : Option Value} {l6 : Option Value} {l7 : Option Value}  : runF C d m_LL_lawz (1874, [l0, l1, l2, l3, l4, l5, l6, l7], [], σ) = some (.inl (some (.int (0 : Int32))), σ) := by
  refine (r_iconst (v := (0 : Int32)) (show decode (zb m_LL_lawz) 1874 = .ok (.iconst (0), 1) from by decide +kernel) (by decide)).trans ?_
  exact r_bret (show decode (zb m_LL_lawz) 1875 = .ok (.ireturn, 1) from by decide +kernel) rfl (by decide)
theorem b_LL_lawz_1876 {C : CF} {d : Nat} {σ : HP} {x5 : Int32} {l0 : Option Value} {l1 : Option Value} {l2 : Option Value} {l3 : Option Value} {l4 : Option Value} {l6 : Option Value} {l7 : Option Value}  : runF C d m_LL_lawz (1876, [l0, l1, l2, l3, l4, some (.int x5), l6, l7], [], σ) = if ¬ x5 = 0 then runF C d m_LL_lawz (1893, [l0, l1, l2, l3, l4, some (.int x5), l6, l7], [], σ) else runF C d m_LL_lawz (1881, [l0, l1, l2, l3, l4, some (.int x5), l6, l7], [], σ) := by
  refine (r_iload 5 (show decode (zb m_LL_lawz) 1876 = .ok (.iload 5, 2) from by decide +kernel) rfl).trans ?_
  exact r_if_ne 1893 (show decode (zb m_LL_lawz) 1878 = .ok (.ifCond .ne (15), 3) from by decide +kernel) rfl
theorem b_LL_lawz_1881 {C : CF} {d : Nat} {σ : HP} {a3 : Nat} {x6 : Int32} {l0 : Option Value} {l1 : Option Value} {l2 : Option Value} {l4 : Option Value} {l5 : Option Value} {l7 : Option Value} (h1 : aty (a3 % 64) = 2) (h2 : inR (0 : Int32) (alen (a3 % 64)) = true) : runF C d m_LL_lawz (1881, [l0, l1, l2, some (.ref a3), l4, l5, some (.int x6), l7], [], σ) = if (lg_cmp (gJ σ a3 (Int32.toNatClampNeg (0 : Int32))) (Int32.toInt64 x6)) = 0 then runF C d m_LL_lawz (1893, [l0, l1, l2, some (.ref a3), l4, l5, some (.int x6), l7], [], σ) else runF C d m_LL_lawz (1891, [l0, l1, l2, some (.ref a3), l4, l5, some (.int x6), l7], [], σ) := by
  refine (r_aloadn 3 (show decode (zb m_LL_lawz) 1881 = .ok (.aload_n 3, 1) from by decide +kernel) rfl).trans ?_
  refine (r_iconst (v := (0 : Int32)) (show decode (zb m_LL_lawz) 1882 = .ok (.iconst (0), 1) from by decide +kernel) (by decide)).trans ?_
  refine (r_lald (show decode (zb m_LL_lawz) 1883 = .ok (.laload, 1) from by decide +kernel) h1 h2).trans ?_
  refine (r_iload 6 (show decode (zb m_LL_lawz) 1884 = .ok (.iload 6, 2) from by decide +kernel) rfl).trans ?_
  refine (r_i2l (show decode (zb m_LL_lawz) 1886 = .ok (.i2l, 1) from by decide +kernel)).trans ?_
  refine (r_lcmp (show decode (zb m_LL_lawz) 1887 = .ok (.lcmp, 1) from by decide +kernel)).trans ?_
  exact r_if_eq 1893 (show decode (zb m_LL_lawz) 1888 = .ok (.ifCond .eq (5), 3) from by decide +kernel) rfl
theorem b_LL_lawz_1891 {C : CF} {d : Nat} {σ : HP} {l0 : Option Value} {l1 : Option Value} {l2 : Option Value} {l3 : Option Value} {l4 : Option Value} {l5 : Option Value} {l6 : Option Value} {l7 : Option Value}  : runF C d m_LL_lawz (1891, [l0, l1, l2, l3, l4, l5, l6, l7], [], σ) = some (.inl (some (.int (0 : Int32))), σ) := by
  refine (r_iconst (v := (0 : Int32)) (show decode (zb m_LL_lawz) 1891 = .ok (.iconst (0), 1) from by decide +kernel) (by decide)).trans ?_
  exact r_bret (show decode (zb m_LL_lawz) 1892 = .ok (.ireturn, 1) from by decide +kernel) rfl (by decide)
theorem b_LL_lawz_1893 {C : CF} {d : Nat} {σ : HP} {l0 : Option Value} {l1 : Option Value} {l2 : Option Value} {l3 : Option Value} {l4 : Option Value} {l5 : Option Value} {l6 : Option Value} {l7 : Option Value}  : runF C d m_LL_lawz (1893, [l0, l1, l2, l3, l4, l5, l6, l7], [], σ) = runF C d m_LL_lawz (2580, [l0, l1, l2, l3, l4, l5, l6, l7], [], σ) := by
  exact r_goto 2580 (show decode (zb m_LL_lawz) 1893 = .ok (.goto (687), 3) from by decide +kernel) rfl
theorem b_LL_lawz_1896 {C : CF} {d : Nat} {σ : HP} {a1 : Nat} {l0 : Option Value} {l2 : Option Value} {l3 : Option Value} {l4 : Option Value} {l5 : Option Value} {l6 : Option Value} {l7 : Option Value} (h1 : a1 % 64 = 11) : runF C d m_LL_lawz (1896, [l0, some (.ref a1), l2, l3, l4, l5, l6, l7], [], σ) = bk C d m_LL_lawz 1897 [l0, some (.ref a1), l2, l3, l4, l5, l6, l7] [] (C m_PL_lacks [.ref a1] σ) := by
  refine (r_aloadn 1 (show decode (zb m_LL_lawz) 1896 = .ok (.aload_n 1, 1) from by decide +kernel) rfl).trans ?_
  exact r_virt (args := []) (rest := []) (show decode (zb m_LL_lawz) 1897 = .ok (.invokevirtual 218, 3) from by decide +kernel) rfl rfl rfl h1
theorem b_LL_lawz_1900 {C : CF} {d : Nat} {σ : HP} {s0 : Int32} {a2 : Nat} {l0 : Option Value} {l1 : Option Value} {l3 : Option Value} {l4 : Option Value} {l5 : Option Value} {l6 : Option Value} {l7 : Option Value} (h1 : a2 % 64 = 12) : runF C d m_LL_lawz (1900, [l0, l1, some (.ref a2), l3, l4, l5, l6, l7], [.int s0], σ) = bk C d m_LL_lawz 1901 [l0, l1, some (.ref a2), l3, l4, l5, l6, l7] [.int s0] (C m_Mo_lacks [.ref a2] σ) := by
  refine (r_aloadn 2 (show decode (zb m_LL_lawz) 1900 = .ok (.aload_n 2, 1) from by decide +kernel) rfl).trans ?_
  exact r_virt (args := []) (rest := [.int s0]) (show decode (zb m_LL_lawz) 1901 = .ok (.invokevirtual 221, 3) from by decide +kernel) rfl rfl rfl h1
theorem b_LL_lawz_1904 {C : CF} {d : Nat} {σ : HP} {s0 : Int32} {s1 : Int32} {l0 : Option Value} {l1 : Option Value} {l2 : Option Value} {l3 : Option Value} {l4 : Option Value} {l5 : Option Value} {l6 : Option Value} {l7 : Option Value}  : runF C d m_LL_lawz (1904, [l0, l1, l2, l3, l4, l5, l6, l7], [.int s0, .int s1], σ) = if s1 = s0 then runF C d m_LL_lawz (2580, [l0, l1, l2, l3, l4, l5, l6, l7], [], σ) else runF C d m_LL_lawz (1907, [l0, l1, l2, l3, l4, l5, l6, l7], [], σ) := by
  exact r_icmp_eq 2580 (show decode (zb m_LL_lawz) 1904 = .ok (.if_icmp .eq (676), 3) from by decide +kernel) rfl
theorem b_LL_lawz_1907 {C : CF} {d : Nat} {σ : HP} {l0 : Option Value} {l1 : Option Value} {l2 : Option Value} {l3 : Option Value} {l4 : Option Value} {l5 : Option Value} {l6 : Option Value} {l7 : Option Value}  : runF C d m_LL_lawz (1907, [l0, l1, l2, l3, l4, l5, l6, l7], [], σ) = some (.inl (some (.int (0 : Int32))), σ) := by
  refine (r_iconst (v := (0 : Int32)) (show decode (zb m_LL_lawz) 1907 = .ok (.iconst (0), 1) from by decide +kernel) (by decide)).trans ?_
  exact r_bret (show decode (zb m_LL_lawz) 1908 = .ok (.ireturn, 1) from by decide +kernel) rfl (by decide)
theorem b_LL_lawz_1909 {C : CF} {d : Nat} {σ : HP} {a1 : Nat} {x4 : Int32} {a3 : Nat} {l2 : Option Value} {l5 : Option Value} {l6 : Option Value} {l7 : Option Value} (h1 : inR (x4 + (1 : Int32)) (hL σ) = true) (h2 : inR (x4 + (2 : Int32)) (hL σ) = true) : runF C d m_LL_lawz (1909, [some (.ref 18), some (.ref a1), l2, some (.ref a3), some (.int x4), l5, l6, l7], [], σ) = bkN C d m_LL_lawz 1923 [some (.ref 18), some (.ref a1), l2, some (.ref a3), some (.int x4), l5, l6, l7] [] (C m_LL_truest [.ref a1, .int (gI σ 18 (Int32.toNatClampNeg (x4 + (1 : Int32)))), .int (gI σ 18 (Int32.toNatClampNeg (x4 + (2 : Int32)))), .ref a3] σ) := by
  refine (r_aloadn 1 (show decode (zb m_LL_lawz) 1909 = .ok (.aload_n 1, 1) from by decide +kernel) rfl).trans ?_
  refine (r_aloadn 0 (show decode (zb m_LL_lawz) 1910 = .ok (.aload_n 0, 1) from by decide +kernel) rfl).trans ?_
  refine (r_iload 4 (show decode (zb m_LL_lawz) 1911 = .ok (.iload 4, 2) from by decide +kernel) rfl).trans ?_
  refine (r_iconst (v := (1 : Int32)) (show decode (zb m_LL_lawz) 1913 = .ok (.iconst (1), 1) from by decide +kernel) (by decide)).trans ?_
  refine (r_iadd (show decode (zb m_LL_lawz) 1914 = .ok (.iadd, 1) from by decide +kernel)).trans ?_
  refine (r_iald18 (show decode (zb m_LL_lawz) 1915 = .ok (.iaload, 1) from by decide +kernel) h1).trans ?_
  refine (r_aloadn 0 (show decode (zb m_LL_lawz) 1916 = .ok (.aload_n 0, 1) from by decide +kernel) rfl).trans ?_
  refine (r_iload 4 (show decode (zb m_LL_lawz) 1917 = .ok (.iload 4, 2) from by decide +kernel) rfl).trans ?_
  refine (r_iconst (v := (2 : Int32)) (show decode (zb m_LL_lawz) 1919 = .ok (.iconst (2), 1) from by decide +kernel) (by decide)).trans ?_
  refine (r_iadd (show decode (zb m_LL_lawz) 1920 = .ok (.iadd, 1) from by decide +kernel)).trans ?_
  refine (r_iald18 (show decode (zb m_LL_lawz) 1921 = .ok (.iaload, 1) from by decide +kernel) h2).trans ?_
  refine (r_aloadn 3 (show decode (zb m_LL_lawz) 1922 = .ok (.aload_n 3, 1) from by decide +kernel) rfl).trans ?_
  exact r_stat (args := [.ref a1, .int (gI σ 18 (Int32.toNatClampNeg (x4 + (1 : Int32)))), .int (gI σ 18 (Int32.toNatClampNeg (x4 + (2 : Int32)))), .ref a3]) (rest := []) (show decode (zb m_LL_lawz) 1923 = .ok (.invokestatic 222, 3) from by decide +kernel) rfl (by decide) rfl rfl
theorem b_LL_lawz_1926 {C : CF} {d : Nat} {σ : HP} {s0 : Int32} {a2 : Nat} {x4 : Int32} {l1 : Option Value} {l3 : Option Value} {l5 : Option Value} {l6 : Option Value} {l7 : Option Value} (h1 : inR (x4 + (1 : Int32)) (hL σ) = true) (h2 : inR (x4 + (2 : Int32)) (hL σ) = true) (h3 : a2 % 64 = 12) : runF C d m_LL_lawz (1926, [some (.ref 18), l1, some (.ref a2), l3, some (.int x4), l5, l6, l7], [.int s0], σ) = bk C d m_LL_lawz 1941 [some (.ref 18), l1, some (.ref a2), l3, some (.int x4), some (.int s0), l6, l7] [] (C m_Mo_truest [.ref a2, .int (gI σ 18 (Int32.toNatClampNeg (x4 + (1 : Int32)))), .int (gI σ 18 (Int32.toNatClampNeg (x4 + (2 : Int32))))] σ) := by
  refine (r_istore 5 (show decode (zb m_LL_lawz) 1926 = .ok (.istore 5, 2) from by decide +kernel) rfl).trans ?_
  refine (r_aloadn 2 (show decode (zb m_LL_lawz) 1928 = .ok (.aload_n 2, 1) from by decide +kernel) rfl).trans ?_
  refine (r_aloadn 0 (show decode (zb m_LL_lawz) 1929 = .ok (.aload_n 0, 1) from by decide +kernel) rfl).trans ?_
  refine (r_iload 4 (show decode (zb m_LL_lawz) 1930 = .ok (.iload 4, 2) from by decide +kernel) rfl).trans ?_
  refine (r_iconst (v := (1 : Int32)) (show decode (zb m_LL_lawz) 1932 = .ok (.iconst (1), 1) from by decide +kernel) (by decide)).trans ?_
  refine (r_iadd (show decode (zb m_LL_lawz) 1933 = .ok (.iadd, 1) from by decide +kernel)).trans ?_
  refine (r_iald18 (show decode (zb m_LL_lawz) 1934 = .ok (.iaload, 1) from by decide +kernel) h1).trans ?_
  refine (r_aloadn 0 (show decode (zb m_LL_lawz) 1935 = .ok (.aload_n 0, 1) from by decide +kernel) rfl).trans ?_
  refine (r_iload 4 (show decode (zb m_LL_lawz) 1936 = .ok (.iload 4, 2) from by decide +kernel) rfl).trans ?_
  refine (r_iconst (v := (2 : Int32)) (show decode (zb m_LL_lawz) 1938 = .ok (.iconst (2), 1) from by decide +kernel) (by decide)).trans ?_
  refine (r_iadd (show decode (zb m_LL_lawz) 1939 = .ok (.iadd, 1) from by decide +kernel)).trans ?_
  refine (r_iald18 (show decode (zb m_LL_lawz) 1940 = .ok (.iaload, 1) from by decide +kernel) h2).trans ?_
  exact r_virt (args := [.int (gI σ 18 (Int32.toNatClampNeg (x4 + (1 : Int32)))), .int (gI σ 18 (Int32.toNatClampNeg (x4 + (2 : Int32))))]) (rest := []) (show decode (zb m_LL_lawz) 1941 = .ok (.invokevirtual 224, 3) from by decide +kernel) rfl rfl rfl h3
theorem b_LL_lawz_1944 {C : CF} {d : Nat} {σ : HP} {s0 : Int32} {a2 : Nat} {l0 : Option Value} {l1 : Option Value} {l3 : Option Value} {l4 : Option Value} {l5 : Option Value} {l6 : Option Value} {l7 : Option Value} (h1 : a2 % 64 = 12) : runF C d m_LL_lawz (1944, [l0, l1, some (.ref a2), l3, l4, l5, l6, l7], [.int s0], σ) = bk C d m_LL_lawz 1947 [l0, l1, some (.ref a2), l3, l4, l5, some (.int s0), l7] [] (C m_Mo_thrown [.ref a2] σ) := by
  refine (r_istore 6 (show decode (zb m_LL_lawz) 1944 = .ok (.istore 6, 2) from by decide +kernel) rfl).trans ?_
  refine (r_aloadn 2 (show decode (zb m_LL_lawz) 1946 = .ok (.aload_n 2, 1) from by decide +kernel) rfl).trans ?_
  exact r_virt (args := []) (rest := []) (show decode (zb m_LL_lawz) 1947 = .ok (.invokevirtual 128, 3) from by decide +kernel) rfl rfl rfl h1
theorem b_LL_lawz_1950 {C : CF} {d : Nat} {σ : HP} {s0 : Int32} {x5 : Int32} {l0 : Option Value} {l1 : Option Value} {l2 : Option Value} {l3 : Option Value} {l4 : Option Value} {l6 : Option Value} {l7 : Option Value}  : runF C d m_LL_lawz (1950, [l0, l1, l2, l3, l4, some (.int x5), l6, l7], [.int s0], σ) = if s0 = x5 then runF C d m_LL_lawz (1957, [l0, l1, l2, l3, l4, some (.int x5), l6, l7], [], σ) else runF C d m_LL_lawz (1955, [l0, l1, l2, l3, l4, some (.int x5), l6, l7], [], σ) := by
  refine (r_iload 5 (show decode (zb m_LL_lawz) 1950 = .ok (.iload 5, 2) from by decide +kernel) rfl).trans ?_
  exact r_icmp_eq 1957 (show decode (zb m_LL_lawz) 1952 = .ok (.if_icmp .eq (5), 3) from by decide +kernel) rfl
theorem b_LL_lawz_1955 {C : CF} {d : Nat} {σ : HP} {l0 : Option Value} {l1 : Option Value} {l2 : Option Value} {l3 : Option Value} {l4 : Option Value} {l5 : Option Value} {l6 : Option Value} {l7 : Option Value}  : runF C d m_LL_lawz (1955, [l0, l1, l2, l3, l4, l5, l6, l7], [], σ) = some (.inl (some (.int (0 : Int32))), σ) := by
  refine (r_iconst (v := (0 : Int32)) (show decode (zb m_LL_lawz) 1955 = .ok (.iconst (0), 1) from by decide +kernel) (by decide)).trans ?_
  exact r_bret (show decode (zb m_LL_lawz) 1956 = .ok (.ireturn, 1) from by decide +kernel) rfl (by decide)
theorem b_LL_lawz_1957 {C : CF} {d : Nat} {σ : HP} {x5 : Int32} {l0 : Option Value} {l1 : Option Value} {l2 : Option Value} {l3 : Option Value} {l4 : Option Value} {l6 : Option Value} {l7 : Option Value}  : runF C d m_LL_lawz (1957, [l0, l1, l2, l3, l4, some (.int x5), l6, l7], [], σ) = if ¬ x5 = 0 then runF C d m_LL_lawz (1974, [l0, l1, l2, l3, l4, some (.int x5), l6, l7], [], σ) else runF C d m_LL_lawz (1962, [l0, l1, l2, l3, l4, some (.int x5), l6, l7], [], σ) := by
  refine (r_iload 5 (show decode (zb m_LL_lawz) 1957 = .ok (.iload 5, 2) from by decide +kernel) rfl).trans ?_
  exact r_if_ne 1974 (show decode (zb m_LL_lawz) 1959 = .ok (.ifCond .ne (15), 3) from by decide +kernel) rfl
theorem b_LL_lawz_1962 {C : CF} {d : Nat} {σ : HP} {a3 : Nat} {x6 : Int32} {l0 : Option Value} {l1 : Option Value} {l2 : Option Value} {l4 : Option Value} {l5 : Option Value} {l7 : Option Value} (h1 : aty (a3 % 64) = 2) (h2 : inR (0 : Int32) (alen (a3 % 64)) = true) : runF C d m_LL_lawz (1962, [l0, l1, l2, some (.ref a3), l4, l5, some (.int x6), l7], [], σ) = if (lg_cmp (gJ σ a3 (Int32.toNatClampNeg (0 : Int32))) (Int32.toInt64 x6)) = 0 then runF C d m_LL_lawz (1974, [l0, l1, l2, some (.ref a3), l4, l5, some (.int x6), l7], [], σ) else runF C d m_LL_lawz (1972, [l0, l1, l2, some (.ref a3), l4, l5, some (.int x6), l7], [], σ) := by
  refine (r_aloadn 3 (show decode (zb m_LL_lawz) 1962 = .ok (.aload_n 3, 1) from by decide +kernel) rfl).trans ?_
  refine (r_iconst (v := (0 : Int32)) (show decode (zb m_LL_lawz) 1963 = .ok (.iconst (0), 1) from by decide +kernel) (by decide)).trans ?_
  refine (r_lald (show decode (zb m_LL_lawz) 1964 = .ok (.laload, 1) from by decide +kernel) h1 h2).trans ?_
  refine (r_iload 6 (show decode (zb m_LL_lawz) 1965 = .ok (.iload 6, 2) from by decide +kernel) rfl).trans ?_
  refine (r_i2l (show decode (zb m_LL_lawz) 1967 = .ok (.i2l, 1) from by decide +kernel)).trans ?_
  refine (r_lcmp (show decode (zb m_LL_lawz) 1968 = .ok (.lcmp, 1) from by decide +kernel)).trans ?_
  exact r_if_eq 1974 (show decode (zb m_LL_lawz) 1969 = .ok (.ifCond .eq (5), 3) from by decide +kernel) rfl
theorem b_LL_lawz_1972 {C : CF} {d : Nat} {σ : HP} {l0 : Option Value} {l1 : Option Value} {l2 : Option Value} {l3 : Option Value} {l4 : Option Value} {l5 : Option Value} {l6 : Option Value} {l7 : Option Value}  : runF C d m_LL_lawz (1972, [l0, l1, l2, l3, l4, l5, l6, l7], [], σ) = some (.inl (some (.int (0 : Int32))), σ) := by
  refine (r_iconst (v := (0 : Int32)) (show decode (zb m_LL_lawz) 1972 = .ok (.iconst (0), 1) from by decide +kernel) (by decide)).trans ?_
  exact r_bret (show decode (zb m_LL_lawz) 1973 = .ok (.ireturn, 1) from by decide +kernel) rfl (by decide)
theorem b_LL_lawz_1974 {C : CF} {d : Nat} {σ : HP} {l0 : Option Value} {l1 : Option Value} {l2 : Option Value} {l3 : Option Value} {l4 : Option Value} {l5 : Option Value} {l6 : Option Value} {l7 : Option Value}  : runF C d m_LL_lawz (1974, [l0, l1, l2, l3, l4, l5, l6, l7], [], σ) = runF C d m_LL_lawz (2580, [l0, l1, l2, l3, l4, l5, l6, l7], [], σ) := by
  exact r_goto 2580 (show decode (zb m_LL_lawz) 1974 = .ok (.goto (606), 3) from by decide +kernel) rfl
theorem b_LL_lawz_1977 {C : CF} {d : Nat} {σ : HP} {a1 : Nat} {x4 : Int32} {a3 : Nat} {l2 : Option Value} {l5 : Option Value} {l6 : Option Value} {l7 : Option Value} (h1 : inR (x4 + (1 : Int32)) (hL σ) = true) : runF C d m_LL_lawz (1977, [some (.ref 18), some (.ref a1), l2, some (.ref a3), some (.int x4), l5, l6, l7], [], σ) = bkN C d m_LL_lawz 1985 [some (.ref 18), some (.ref a1), l2, some (.ref a3), some (.int x4), l5, l6, l7] [] (C m_LL_proud [.ref a1, .int (gI σ 18 (Int32.toNatClampNeg (x4 + (1 : Int32)))), .ref a3] σ) := by
  refine (r_aloadn 1 (show decode (zb m_LL_lawz) 1977 = .ok (.aload_n 1, 1) from by decide +kernel) rfl).trans ?_
  refine (r_aloadn 0 (show decode (zb m_LL_lawz) 1978 = .ok (.aload_n 0, 1) from by decide +kernel) rfl).trans ?_
  refine (r_iload 4 (show decode (zb m_LL_lawz) 1979 = .ok (.iload 4, 2) from by decide +kernel) rfl).trans ?_
  refine (r_iconst (v := (1 : Int32)) (show decode (zb m_LL_lawz) 1981 = .ok (.iconst (1), 1) from by decide +kernel) (by decide)).trans ?_
  refine (r_iadd (show decode (zb m_LL_lawz) 1982 = .ok (.iadd, 1) from by decide +kernel)).trans ?_
  refine (r_iald18 (show decode (zb m_LL_lawz) 1983 = .ok (.iaload, 1) from by decide +kernel) h1).trans ?_
  refine (r_aloadn 3 (show decode (zb m_LL_lawz) 1984 = .ok (.aload_n 3, 1) from by decide +kernel) rfl).trans ?_
  exact r_stat (args := [.ref a1, .int (gI σ 18 (Int32.toNatClampNeg (x4 + (1 : Int32)))), .ref a3]) (rest := []) (show decode (zb m_LL_lawz) 1985 = .ok (.invokestatic 225, 3) from by decide +kernel) rfl (by decide) rfl rfl
theorem b_LL_lawz_1988 {C : CF} {d : Nat} {σ : HP} {s0 : Int32} {a2 : Nat} {x4 : Int32} {l1 : Option Value} {l3 : Option Value} {l5 : Option Value} {l6 : Option Value} {l7 : Option Value} (h1 : inR (x4 + (1 : Int32)) (hL σ) = true) (h2 : a2 % 64 = 12) : runF C d m_LL_lawz (1988, [some (.ref 18), l1, some (.ref a2), l3, some (.int x4), l5, l6, l7], [.int s0], σ) = bk C d m_LL_lawz 1997 [some (.ref 18), l1, some (.ref a2), l3, some (.int x4), some (.int s0), l6, l7] [] (C m_Mo_proud [.ref a2, .int (gI σ 18 (Int32.toNatClampNeg (x4 + (1 : Int32))))] σ) := by
  refine (r_istore 5 (show decode (zb m_LL_lawz) 1988 = .ok (.istore 5, 2) from by decide +kernel) rfl).trans ?_
  refine (r_aloadn 2 (show decode (zb m_LL_lawz) 1990 = .ok (.aload_n 2, 1) from by decide +kernel) rfl).trans ?_
  refine (r_aloadn 0 (show decode (zb m_LL_lawz) 1991 = .ok (.aload_n 0, 1) from by decide +kernel) rfl).trans ?_
  refine (r_iload 4 (show decode (zb m_LL_lawz) 1992 = .ok (.iload 4, 2) from by decide +kernel) rfl).trans ?_
  refine (r_iconst (v := (1 : Int32)) (show decode (zb m_LL_lawz) 1994 = .ok (.iconst (1), 1) from by decide +kernel) (by decide)).trans ?_
  refine (r_iadd (show decode (zb m_LL_lawz) 1995 = .ok (.iadd, 1) from by decide +kernel)).trans ?_
  refine (r_iald18 (show decode (zb m_LL_lawz) 1996 = .ok (.iaload, 1) from by decide +kernel) h1).trans ?_
  exact r_virt (args := [.int (gI σ 18 (Int32.toNatClampNeg (x4 + (1 : Int32))))]) (rest := []) (show decode (zb m_LL_lawz) 1997 = .ok (.invokevirtual 227, 3) from by decide +kernel) rfl rfl rfl h2
theorem b_LL_lawz_2000 {C : CF} {d : Nat} {σ : HP} {s0 : Int32} {a2 : Nat} {l0 : Option Value} {l1 : Option Value} {l3 : Option Value} {l4 : Option Value} {l5 : Option Value} {l6 : Option Value} {l7 : Option Value} (h1 : a2 % 64 = 12) : runF C d m_LL_lawz (2000, [l0, l1, some (.ref a2), l3, l4, l5, l6, l7], [.int s0], σ) = bk C d m_LL_lawz 2003 [l0, l1, some (.ref a2), l3, l4, l5, some (.int s0), l7] [] (C m_Mo_thrown [.ref a2] σ) := by
  refine (r_istore 6 (show decode (zb m_LL_lawz) 2000 = .ok (.istore 6, 2) from by decide +kernel) rfl).trans ?_
  refine (r_aloadn 2 (show decode (zb m_LL_lawz) 2002 = .ok (.aload_n 2, 1) from by decide +kernel) rfl).trans ?_
  exact r_virt (args := []) (rest := []) (show decode (zb m_LL_lawz) 2003 = .ok (.invokevirtual 128, 3) from by decide +kernel) rfl rfl rfl h1
theorem b_LL_lawz_2006 {C : CF} {d : Nat} {σ : HP} {s0 : Int32} {x5 : Int32} {l0 : Option Value} {l1 : Option Value} {l2 : Option Value} {l3 : Option Value} {l4 : Option Value} {l6 : Option Value} {l7 : Option Value}  : runF C d m_LL_lawz (2006, [l0, l1, l2, l3, l4, some (.int x5), l6, l7], [.int s0], σ) = if s0 = x5 then runF C d m_LL_lawz (2013, [l0, l1, l2, l3, l4, some (.int x5), l6, l7], [], σ) else runF C d m_LL_lawz (2011, [l0, l1, l2, l3, l4, some (.int x5), l6, l7], [], σ) := by
  refine (r_iload 5 (show decode (zb m_LL_lawz) 2006 = .ok (.iload 5, 2) from by decide +kernel) rfl).trans ?_
  exact r_icmp_eq 2013 (show decode (zb m_LL_lawz) 2008 = .ok (.if_icmp .eq (5), 3) from by decide +kernel) rfl
theorem b_LL_lawz_2011 {C : CF} {d : Nat} {σ : HP} {l0 : Option Value} {l1 : Option Value} {l2 : Option Value} {l3 : Option Value} {l4 : Option Value} {l5 : Option Value} {l6 : Option Value} {l7 : Option Value}  : runF C d m_LL_lawz (2011, [l0, l1, l2, l3, l4, l5, l6, l7], [], σ) = some (.inl (some (.int (0 : Int32))), σ) := by
  refine (r_iconst (v := (0 : Int32)) (show decode (zb m_LL_lawz) 2011 = .ok (.iconst (0), 1) from by decide +kernel) (by decide)).trans ?_
  exact r_bret (show decode (zb m_LL_lawz) 2012 = .ok (.ireturn, 1) from by decide +kernel) rfl (by decide)
theorem b_LL_lawz_2013 {C : CF} {d : Nat} {σ : HP} {x5 : Int32} {l0 : Option Value} {l1 : Option Value} {l2 : Option Value} {l3 : Option Value} {l4 : Option Value} {l6 : Option Value} {l7 : Option Value}  : runF C d m_LL_lawz (2013, [l0, l1, l2, l3, l4, some (.int x5), l6, l7], [], σ) = if ¬ x5 = 0 then runF C d m_LL_lawz (2030, [l0, l1, l2, l3, l4, some (.int x5), l6, l7], [], σ) else runF C d m_LL_lawz (2018, [l0, l1, l2, l3, l4, some (.int x5), l6, l7], [], σ) := by
  refine (r_iload 5 (show decode (zb m_LL_lawz) 2013 = .ok (.iload 5, 2) from by decide +kernel) rfl).trans ?_
  exact r_if_ne 2030 (show decode (zb m_LL_lawz) 2015 = .ok (.ifCond .ne (15), 3) from by decide +kernel) rfl
theorem b_LL_lawz_2018 {C : CF} {d : Nat} {σ : HP} {a3 : Nat} {x6 : Int32} {l0 : Option Value} {l1 : Option Value} {l2 : Option Value} {l4 : Option Value} {l5 : Option Value} {l7 : Option Value} (h1 : aty (a3 % 64) = 2) (h2 : inR (0 : Int32) (alen (a3 % 64)) = true) : runF C d m_LL_lawz (2018, [l0, l1, l2, some (.ref a3), l4, l5, some (.int x6), l7], [], σ) = if (lg_cmp (gJ σ a3 (Int32.toNatClampNeg (0 : Int32))) (Int32.toInt64 x6)) = 0 then runF C d m_LL_lawz (2030, [l0, l1, l2, some (.ref a3), l4, l5, some (.int x6), l7], [], σ) else runF C d m_LL_lawz (2028, [l0, l1, l2, some (.ref a3), l4, l5, some (.int x6), l7], [], σ) := by
  refine (r_aloadn 3 (show decode (zb m_LL_lawz) 2018 = .ok (.aload_n 3, 1) from by decide +kernel) rfl).trans ?_
  refine (r_iconst (v := (0 : Int32)) (show decode (zb m_LL_lawz) 2019 = .ok (.iconst (0), 1) from by decide +kernel) (by decide)).trans ?_
  refine (r_lald (show decode (zb m_LL_lawz) 2020 = .ok (.laload, 1) from by decide +kernel) h1 h2).trans ?_
  refine (r_iload 6 (show decode (zb m_LL_lawz) 2021 = .ok (.iload 6, 2) from by decide +kernel) rfl).trans ?_
  refine (r_i2l (show decode (zb m_LL_lawz) 2023 = .ok (.i2l, 1) from by decide +kernel)).trans ?_
  refine (r_lcmp (show decode (zb m_LL_lawz) 2024 = .ok (.lcmp, 1) from by decide +kernel)).trans ?_
  exact r_if_eq 2030 (show decode (zb m_LL_lawz) 2025 = .ok (.ifCond .eq (5), 3) from by decide +kernel) rfl
theorem b_LL_lawz_2028 {C : CF} {d : Nat} {σ : HP} {l0 : Option Value} {l1 : Option Value} {l2 : Option Value} {l3 : Option Value} {l4 : Option Value} {l5 : Option Value} {l6 : Option Value} {l7 : Option Value}  : runF C d m_LL_lawz (2028, [l0, l1, l2, l3, l4, l5, l6, l7], [], σ) = some (.inl (some (.int (0 : Int32))), σ) := by
  refine (r_iconst (v := (0 : Int32)) (show decode (zb m_LL_lawz) 2028 = .ok (.iconst (0), 1) from by decide +kernel) (by decide)).trans ?_
  exact r_bret (show decode (zb m_LL_lawz) 2029 = .ok (.ireturn, 1) from by decide +kernel) rfl (by decide)
theorem b_LL_lawz_2030 {C : CF} {d : Nat} {σ : HP} {l0 : Option Value} {l1 : Option Value} {l2 : Option Value} {l3 : Option Value} {l4 : Option Value} {l5 : Option Value} {l6 : Option Value} {l7 : Option Value}  : runF C d m_LL_lawz (2030, [l0, l1, l2, l3, l4, l5, l6, l7], [], σ) = runF C d m_LL_lawz (2580, [l0, l1, l2, l3, l4, l5, l6, l7], [], σ) := by
  exact r_goto 2580 (show decode (zb m_LL_lawz) 2030 = .ok (.goto (550), 3) from by decide +kernel) rfl
theorem b_LL_lawz_2033 {C : CF} {d : Nat} {σ : HP} {a1 : Nat} {x4 : Int32} {a3 : Nat} {l2 : Option Value} {l5 : Option Value} {l6 : Option Value} {l7 : Option Value} (h1 : inR (x4 + (1 : Int32)) (hL σ) = true) : runF C d m_LL_lawz (2033, [some (.ref 18), some (.ref a1), l2, some (.ref a3), some (.int x4), l5, l6, l7], [], σ) = bkN C d m_LL_lawz 2041 [some (.ref 18), some (.ref a1), l2, some (.ref a3), some (.int x4), l5, l6, l7] [] (C m_LL_liked [.ref a1, .int (gI σ 18 (Int32.toNatClampNeg (x4 + (1 : Int32)))), .ref a3] σ) := by
  refine (r_aloadn 1 (show decode (zb m_LL_lawz) 2033 = .ok (.aload_n 1, 1) from by decide +kernel) rfl).trans ?_
  refine (r_aloadn 0 (show decode (zb m_LL_lawz) 2034 = .ok (.aload_n 0, 1) from by decide +kernel) rfl).trans ?_
  refine (r_iload 4 (show decode (zb m_LL_lawz) 2035 = .ok (.iload 4, 2) from by decide +kernel) rfl).trans ?_
  refine (r_iconst (v := (1 : Int32)) (show decode (zb m_LL_lawz) 2037 = .ok (.iconst (1), 1) from by decide +kernel) (by decide)).trans ?_
  refine (r_iadd (show decode (zb m_LL_lawz) 2038 = .ok (.iadd, 1) from by decide +kernel)).trans ?_
  refine (r_iald18 (show decode (zb m_LL_lawz) 2039 = .ok (.iaload, 1) from by decide +kernel) h1).trans ?_
  refine (r_aloadn 3 (show decode (zb m_LL_lawz) 2040 = .ok (.aload_n 3, 1) from by decide +kernel) rfl).trans ?_
  exact r_stat (args := [.ref a1, .int (gI σ 18 (Int32.toNatClampNeg (x4 + (1 : Int32)))), .ref a3]) (rest := []) (show decode (zb m_LL_lawz) 2041 = .ok (.invokestatic 228, 3) from by decide +kernel) rfl (by decide) rfl rfl
theorem b_LL_lawz_2044 {C : CF} {d : Nat} {σ : HP} {s0 : Int32} {a2 : Nat} {x4 : Int32} {l1 : Option Value} {l3 : Option Value} {l5 : Option Value} {l6 : Option Value} {l7 : Option Value} (h1 : inR (x4 + (1 : Int32)) (hL σ) = true) (h2 : a2 % 64 = 12) : runF C d m_LL_lawz (2044, [some (.ref 18), l1, some (.ref a2), l3, some (.int x4), l5, l6, l7], [.int s0], σ) = bk C d m_LL_lawz 2053 [some (.ref 18), l1, some (.ref a2), l3, some (.int x4), some (.int s0), l6, l7] [] (C m_Mo_liked [.ref a2, .int (gI σ 18 (Int32.toNatClampNeg (x4 + (1 : Int32))))] σ) := by
  refine (r_istore 5 (show decode (zb m_LL_lawz) 2044 = .ok (.istore 5, 2) from by decide +kernel) rfl).trans ?_
  refine (r_aloadn 2 (show decode (zb m_LL_lawz) 2046 = .ok (.aload_n 2, 1) from by decide +kernel) rfl).trans ?_
  refine (r_aloadn 0 (show decode (zb m_LL_lawz) 2047 = .ok (.aload_n 0, 1) from by decide +kernel) rfl).trans ?_
  refine (r_iload 4 (show decode (zb m_LL_lawz) 2048 = .ok (.iload 4, 2) from by decide +kernel) rfl).trans ?_
  refine (r_iconst (v := (1 : Int32)) (show decode (zb m_LL_lawz) 2050 = .ok (.iconst (1), 1) from by decide +kernel) (by decide)).trans ?_
  refine (r_iadd (show decode (zb m_LL_lawz) 2051 = .ok (.iadd, 1) from by decide +kernel)).trans ?_
  refine (r_iald18 (show decode (zb m_LL_lawz) 2052 = .ok (.iaload, 1) from by decide +kernel) h1).trans ?_
  exact r_virt (args := [.int (gI σ 18 (Int32.toNatClampNeg (x4 + (1 : Int32))))]) (rest := []) (show decode (zb m_LL_lawz) 2053 = .ok (.invokevirtual 230, 3) from by decide +kernel) rfl rfl rfl h2
theorem b_LL_lawz_2056 {C : CF} {d : Nat} {σ : HP} {s0 : Int32} {a2 : Nat} {l0 : Option Value} {l1 : Option Value} {l3 : Option Value} {l4 : Option Value} {l5 : Option Value} {l6 : Option Value} {l7 : Option Value} (h1 : a2 % 64 = 12) : runF C d m_LL_lawz (2056, [l0, l1, some (.ref a2), l3, l4, l5, l6, l7], [.int s0], σ) = bk C d m_LL_lawz 2059 [l0, l1, some (.ref a2), l3, l4, l5, some (.int s0), l7] [] (C m_Mo_thrown [.ref a2] σ) := by
  refine (r_istore 6 (show decode (zb m_LL_lawz) 2056 = .ok (.istore 6, 2) from by decide +kernel) rfl).trans ?_
  refine (r_aloadn 2 (show decode (zb m_LL_lawz) 2058 = .ok (.aload_n 2, 1) from by decide +kernel) rfl).trans ?_
  exact r_virt (args := []) (rest := []) (show decode (zb m_LL_lawz) 2059 = .ok (.invokevirtual 128, 3) from by decide +kernel) rfl rfl rfl h1
theorem b_LL_lawz_2062 {C : CF} {d : Nat} {σ : HP} {s0 : Int32} {x5 : Int32} {l0 : Option Value} {l1 : Option Value} {l2 : Option Value} {l3 : Option Value} {l4 : Option Value} {l6 : Option Value} {l7 : Option Value}  : runF C d m_LL_lawz (2062, [l0, l1, l2, l3, l4, some (.int x5), l6, l7], [.int s0], σ) = if s0 = x5 then runF C d m_LL_lawz (2069, [l0, l1, l2, l3, l4, some (.int x5), l6, l7], [], σ) else runF C d m_LL_lawz (2067, [l0, l1, l2, l3, l4, some (.int x5), l6, l7], [], σ) := by
  refine (r_iload 5 (show decode (zb m_LL_lawz) 2062 = .ok (.iload 5, 2) from by decide +kernel) rfl).trans ?_
  exact r_icmp_eq 2069 (show decode (zb m_LL_lawz) 2064 = .ok (.if_icmp .eq (5), 3) from by decide +kernel) rfl
theorem b_LL_lawz_2067 {C : CF} {d : Nat} {σ : HP} {l0 : Option Value} {l1 : Option Value} {l2 : Option Value} {l3 : Option Value} {l4 : Option Value} {l5 : Option Value} {l6 : Option Value} {l7 : Option Value}  : runF C d m_LL_lawz (2067, [l0, l1, l2, l3, l4, l5, l6, l7], [], σ) = some (.inl (some (.int (0 : Int32))), σ) := by
  refine (r_iconst (v := (0 : Int32)) (show decode (zb m_LL_lawz) 2067 = .ok (.iconst (0), 1) from by decide +kernel) (by decide)).trans ?_
  exact r_bret (show decode (zb m_LL_lawz) 2068 = .ok (.ireturn, 1) from by decide +kernel) rfl (by decide)
theorem b_LL_lawz_2069 {C : CF} {d : Nat} {σ : HP} {x5 : Int32} {l0 : Option Value} {l1 : Option Value} {l2 : Option Value} {l3 : Option Value} {l4 : Option Value} {l6 : Option Value} {l7 : Option Value}  : runF C d m_LL_lawz (2069, [l0, l1, l2, l3, l4, some (.int x5), l6, l7], [], σ) = if ¬ x5 = 0 then runF C d m_LL_lawz (2086, [l0, l1, l2, l3, l4, some (.int x5), l6, l7], [], σ) else runF C d m_LL_lawz (2074, [l0, l1, l2, l3, l4, some (.int x5), l6, l7], [], σ) := by
  refine (r_iload 5 (show decode (zb m_LL_lawz) 2069 = .ok (.iload 5, 2) from by decide +kernel) rfl).trans ?_
  exact r_if_ne 2086 (show decode (zb m_LL_lawz) 2071 = .ok (.ifCond .ne (15), 3) from by decide +kernel) rfl
theorem b_LL_lawz_2074 {C : CF} {d : Nat} {σ : HP} {a3 : Nat} {x6 : Int32} {l0 : Option Value} {l1 : Option Value} {l2 : Option Value} {l4 : Option Value} {l5 : Option Value} {l7 : Option Value} (h1 : aty (a3 % 64) = 2) (h2 : inR (0 : Int32) (alen (a3 % 64)) = true) : runF C d m_LL_lawz (2074, [l0, l1, l2, some (.ref a3), l4, l5, some (.int x6), l7], [], σ) = if (lg_cmp (gJ σ a3 (Int32.toNatClampNeg (0 : Int32))) (Int32.toInt64 x6)) = 0 then runF C d m_LL_lawz (2086, [l0, l1, l2, some (.ref a3), l4, l5, some (.int x6), l7], [], σ) else runF C d m_LL_lawz (2084, [l0, l1, l2, some (.ref a3), l4, l5, some (.int x6), l7], [], σ) := by
  refine (r_aloadn 3 (show decode (zb m_LL_lawz) 2074 = .ok (.aload_n 3, 1) from by decide +kernel) rfl).trans ?_
  refine (r_iconst (v := (0 : Int32)) (show decode (zb m_LL_lawz) 2075 = .ok (.iconst (0), 1) from by decide +kernel) (by decide)).trans ?_
  refine (r_lald (show decode (zb m_LL_lawz) 2076 = .ok (.laload, 1) from by decide +kernel) h1 h2).trans ?_
  refine (r_iload 6 (show decode (zb m_LL_lawz) 2077 = .ok (.iload 6, 2) from by decide +kernel) rfl).trans ?_
  refine (r_i2l (show decode (zb m_LL_lawz) 2079 = .ok (.i2l, 1) from by decide +kernel)).trans ?_
  refine (r_lcmp (show decode (zb m_LL_lawz) 2080 = .ok (.lcmp, 1) from by decide +kernel)).trans ?_
  exact r_if_eq 2086 (show decode (zb m_LL_lawz) 2081 = .ok (.ifCond .eq (5), 3) from by decide +kernel) rfl
theorem b_LL_lawz_2084 {C : CF} {d : Nat} {σ : HP} {l0 : Option Value} {l1 : Option Value} {l2 : Option Value} {l3 : Option Value} {l4 : Option Value} {l5 : Option Value} {l6 : Option Value} {l7 : Option Value}  : runF C d m_LL_lawz (2084, [l0, l1, l2, l3, l4, l5, l6, l7], [], σ) = some (.inl (some (.int (0 : Int32))), σ) := by
  refine (r_iconst (v := (0 : Int32)) (show decode (zb m_LL_lawz) 2084 = .ok (.iconst (0), 1) from by decide +kernel) (by decide)).trans ?_
  exact r_bret (show decode (zb m_LL_lawz) 2085 = .ok (.ireturn, 1) from by decide +kernel) rfl (by decide)
theorem b_LL_lawz_2086 {C : CF} {d : Nat} {σ : HP} {l0 : Option Value} {l1 : Option Value} {l2 : Option Value} {l3 : Option Value} {l4 : Option Value} {l5 : Option Value} {l6 : Option Value} {l7 : Option Value}  : runF C d m_LL_lawz (2086, [l0, l1, l2, l3, l4, l5, l6, l7], [], σ) = runF C d m_LL_lawz (2580, [l0, l1, l2, l3, l4, l5, l6, l7], [], σ) := by
  exact r_goto 2580 (show decode (zb m_LL_lawz) 2086 = .ok (.goto (494), 3) from by decide +kernel) rfl
theorem b_LL_lawz_2089 {C : CF} {d : Nat} {σ : HP} {a1 : Nat} {x4 : Int32} {a3 : Nat} {l2 : Option Value} {l5 : Option Value} {l6 : Option Value} {l7 : Option Value} (h1 : inR (x4 + (1 : Int32)) (hL σ) = true) : runF C d m_LL_lawz (2089, [some (.ref 18), some (.ref a1), l2, some (.ref a3), some (.int x4), l5, l6, l7], [], σ) = bkN C d m_LL_lawz 2097 [some (.ref 18), some (.ref a1), l2, some (.ref a3), some (.int x4), l5, l6, l7] [] (C m_LL_above [.ref a1, .int (gI σ 18 (Int32.toNatClampNeg (x4 + (1 : Int32)))), .ref a3] σ) := by
  refine (r_aloadn 1 (show decode (zb m_LL_lawz) 2089 = .ok (.aload_n 1, 1) from by decide +kernel) rfl).trans ?_
  refine (r_aloadn 0 (show decode (zb m_LL_lawz) 2090 = .ok (.aload_n 0, 1) from by decide +kernel) rfl).trans ?_
  refine (r_iload 4 (show decode (zb m_LL_lawz) 2091 = .ok (.iload 4, 2) from by decide +kernel) rfl).trans ?_
  refine (r_iconst (v := (1 : Int32)) (show decode (zb m_LL_lawz) 2093 = .ok (.iconst (1), 1) from by decide +kernel) (by decide)).trans ?_
  refine (r_iadd (show decode (zb m_LL_lawz) 2094 = .ok (.iadd, 1) from by decide +kernel)).trans ?_
  refine (r_iald18 (show decode (zb m_LL_lawz) 2095 = .ok (.iaload, 1) from by decide +kernel) h1).trans ?_
  refine (r_aloadn 3 (show decode (zb m_LL_lawz) 2096 = .ok (.aload_n 3, 1) from by decide +kernel) rfl).trans ?_
  exact r_stat (args := [.ref a1, .int (gI σ 18 (Int32.toNatClampNeg (x4 + (1 : Int32)))), .ref a3]) (rest := []) (show decode (zb m_LL_lawz) 2097 = .ok (.invokestatic 231, 3) from by decide +kernel) rfl (by decide) rfl rfl
theorem b_LL_lawz_2100 {C : CF} {d : Nat} {σ : HP} {s0 : Int32} {a2 : Nat} {x4 : Int32} {l1 : Option Value} {l3 : Option Value} {l5 : Option Value} {l6 : Option Value} {l7 : Option Value} (h1 : inR (x4 + (1 : Int32)) (hL σ) = true) (h2 : a2 % 64 = 12) : runF C d m_LL_lawz (2100, [some (.ref 18), l1, some (.ref a2), l3, some (.int x4), l5, l6, l7], [.int s0], σ) = bk C d m_LL_lawz 2109 [some (.ref 18), l1, some (.ref a2), l3, some (.int x4), some (.int s0), l6, l7] [] (C m_Mo_above [.ref a2, .int (gI σ 18 (Int32.toNatClampNeg (x4 + (1 : Int32))))] σ) := by
  refine (r_istore 5 (show decode (zb m_LL_lawz) 2100 = .ok (.istore 5, 2) from by decide +kernel) rfl).trans ?_
  refine (r_aloadn 2 (show decode (zb m_LL_lawz) 2102 = .ok (.aload_n 2, 1) from by decide +kernel) rfl).trans ?_
  refine (r_aloadn 0 (show decode (zb m_LL_lawz) 2103 = .ok (.aload_n 0, 1) from by decide +kernel) rfl).trans ?_
  refine (r_iload 4 (show decode (zb m_LL_lawz) 2104 = .ok (.iload 4, 2) from by decide +kernel) rfl).trans ?_
  refine (r_iconst (v := (1 : Int32)) (show decode (zb m_LL_lawz) 2106 = .ok (.iconst (1), 1) from by decide +kernel) (by decide)).trans ?_
  refine (r_iadd (show decode (zb m_LL_lawz) 2107 = .ok (.iadd, 1) from by decide +kernel)).trans ?_
  refine (r_iald18 (show decode (zb m_LL_lawz) 2108 = .ok (.iaload, 1) from by decide +kernel) h1).trans ?_
  exact r_virt (args := [.int (gI σ 18 (Int32.toNatClampNeg (x4 + (1 : Int32))))]) (rest := []) (show decode (zb m_LL_lawz) 2109 = .ok (.invokevirtual 233, 3) from by decide +kernel) rfl rfl rfl h2
theorem b_LL_lawz_2112 {C : CF} {d : Nat} {σ : HP} {s0 : Int32} {a2 : Nat} {l0 : Option Value} {l1 : Option Value} {l3 : Option Value} {l4 : Option Value} {l5 : Option Value} {l6 : Option Value} {l7 : Option Value} (h1 : a2 % 64 = 12) : runF C d m_LL_lawz (2112, [l0, l1, some (.ref a2), l3, l4, l5, l6, l7], [.int s0], σ) = bk C d m_LL_lawz 2115 [l0, l1, some (.ref a2), l3, l4, l5, some (.int s0), l7] [] (C m_Mo_thrown [.ref a2] σ) := by
  refine (r_istore 6 (show decode (zb m_LL_lawz) 2112 = .ok (.istore 6, 2) from by decide +kernel) rfl).trans ?_
  refine (r_aloadn 2 (show decode (zb m_LL_lawz) 2114 = .ok (.aload_n 2, 1) from by decide +kernel) rfl).trans ?_
  exact r_virt (args := []) (rest := []) (show decode (zb m_LL_lawz) 2115 = .ok (.invokevirtual 128, 3) from by decide +kernel) rfl rfl rfl h1
theorem b_LL_lawz_2118 {C : CF} {d : Nat} {σ : HP} {s0 : Int32} {x5 : Int32} {l0 : Option Value} {l1 : Option Value} {l2 : Option Value} {l3 : Option Value} {l4 : Option Value} {l6 : Option Value} {l7 : Option Value}  : runF C d m_LL_lawz (2118, [l0, l1, l2, l3, l4, some (.int x5), l6, l7], [.int s0], σ) = if s0 = x5 then runF C d m_LL_lawz (2125, [l0, l1, l2, l3, l4, some (.int x5), l6, l7], [], σ) else runF C d m_LL_lawz (2123, [l0, l1, l2, l3, l4, some (.int x5), l6, l7], [], σ) := by
  refine (r_iload 5 (show decode (zb m_LL_lawz) 2118 = .ok (.iload 5, 2) from by decide +kernel) rfl).trans ?_
  exact r_icmp_eq 2125 (show decode (zb m_LL_lawz) 2120 = .ok (.if_icmp .eq (5), 3) from by decide +kernel) rfl
theorem b_LL_lawz_2123 {C : CF} {d : Nat} {σ : HP} {l0 : Option Value} {l1 : Option Value} {l2 : Option Value} {l3 : Option Value} {l4 : Option Value} {l5 : Option Value} {l6 : Option Value} {l7 : Option Value}  : runF C d m_LL_lawz (2123, [l0, l1, l2, l3, l4, l5, l6, l7], [], σ) = some (.inl (some (.int (0 : Int32))), σ) := by
  refine (r_iconst (v := (0 : Int32)) (show decode (zb m_LL_lawz) 2123 = .ok (.iconst (0), 1) from by decide +kernel) (by decide)).trans ?_
  exact r_bret (show decode (zb m_LL_lawz) 2124 = .ok (.ireturn, 1) from by decide +kernel) rfl (by decide)
theorem b_LL_lawz_2125 {C : CF} {d : Nat} {σ : HP} {x5 : Int32} {l0 : Option Value} {l1 : Option Value} {l2 : Option Value} {l3 : Option Value} {l4 : Option Value} {l6 : Option Value} {l7 : Option Value}  : runF C d m_LL_lawz (2125, [l0, l1, l2, l3, l4, some (.int x5), l6, l7], [], σ) = if ¬ x5 = 0 then runF C d m_LL_lawz (2142, [l0, l1, l2, l3, l4, some (.int x5), l6, l7], [], σ) else runF C d m_LL_lawz (2130, [l0, l1, l2, l3, l4, some (.int x5), l6, l7], [], σ) := by
  refine (r_iload 5 (show decode (zb m_LL_lawz) 2125 = .ok (.iload 5, 2) from by decide +kernel) rfl).trans ?_
  exact r_if_ne 2142 (show decode (zb m_LL_lawz) 2127 = .ok (.ifCond .ne (15), 3) from by decide +kernel) rfl
theorem b_LL_lawz_2130 {C : CF} {d : Nat} {σ : HP} {a3 : Nat} {x6 : Int32} {l0 : Option Value} {l1 : Option Value} {l2 : Option Value} {l4 : Option Value} {l5 : Option Value} {l7 : Option Value} (h1 : aty (a3 % 64) = 2) (h2 : inR (0 : Int32) (alen (a3 % 64)) = true) : runF C d m_LL_lawz (2130, [l0, l1, l2, some (.ref a3), l4, l5, some (.int x6), l7], [], σ) = if (lg_cmp (gJ σ a3 (Int32.toNatClampNeg (0 : Int32))) (Int32.toInt64 x6)) = 0 then runF C d m_LL_lawz (2142, [l0, l1, l2, some (.ref a3), l4, l5, some (.int x6), l7], [], σ) else runF C d m_LL_lawz (2140, [l0, l1, l2, some (.ref a3), l4, l5, some (.int x6), l7], [], σ) := by
  refine (r_aloadn 3 (show decode (zb m_LL_lawz) 2130 = .ok (.aload_n 3, 1) from by decide +kernel) rfl).trans ?_
  refine (r_iconst (v := (0 : Int32)) (show decode (zb m_LL_lawz) 2131 = .ok (.iconst (0), 1) from by decide +kernel) (by decide)).trans ?_
  refine (r_lald (show decode (zb m_LL_lawz) 2132 = .ok (.laload, 1) from by decide +kernel) h1 h2).trans ?_
  refine (r_iload 6 (show decode (zb m_LL_lawz) 2133 = .ok (.iload 6, 2) from by decide +kernel) rfl).trans ?_
  refine (r_i2l (show decode (zb m_LL_lawz) 2135 = .ok (.i2l, 1) from by decide +kernel)).trans ?_
  refine (r_lcmp (show decode (zb m_LL_lawz) 2136 = .ok (.lcmp, 1) from by decide +kernel)).trans ?_
  exact r_if_eq 2142 (show decode (zb m_LL_lawz) 2137 = .ok (.ifCond .eq (5), 3) from by decide +kernel) rfl
theorem b_LL_lawz_2140 {C : CF} {d : Nat} {σ : HP} {l0 : Option Value} {l1 : Option Value} {l2 : Option Value} {l3 : Option Value} {l4 : Option Value} {l5 : Option Value} {l6 : Option Value} {l7 : Option Value}  : runF C d m_LL_lawz (2140, [l0, l1, l2, l3, l4, l5, l6, l7], [], σ) = some (.inl (some (.int (0 : Int32))), σ) := by
  refine (r_iconst (v := (0 : Int32)) (show decode (zb m_LL_lawz) 2140 = .ok (.iconst (0), 1) from by decide +kernel) (by decide)).trans ?_
  exact r_bret (show decode (zb m_LL_lawz) 2141 = .ok (.ireturn, 1) from by decide +kernel) rfl (by decide)
theorem b_LL_lawz_2142 {C : CF} {d : Nat} {σ : HP} {l0 : Option Value} {l1 : Option Value} {l2 : Option Value} {l3 : Option Value} {l4 : Option Value} {l5 : Option Value} {l6 : Option Value} {l7 : Option Value}  : runF C d m_LL_lawz (2142, [l0, l1, l2, l3, l4, l5, l6, l7], [], σ) = runF C d m_LL_lawz (2580, [l0, l1, l2, l3, l4, l5, l6, l7], [], σ) := by
  exact r_goto 2580 (show decode (zb m_LL_lawz) 2142 = .ok (.goto (438), 3) from by decide +kernel) rfl
theorem b_LL_lawz_2145 {C : CF} {d : Nat} {σ : HP} {a1 : Nat} {x4 : Int32} {a3 : Nat} {l2 : Option Value} {l5 : Option Value} {l6 : Option Value} {l7 : Option Value} (h1 : inR (x4 + (1 : Int32)) (hL σ) = true) : runF C d m_LL_lawz (2145, [some (.ref 18), some (.ref a1), l2, some (.ref a3), some (.int x4), l5, l6, l7], [], σ) = bkN C d m_LL_lawz 2153 [some (.ref 18), some (.ref a1), l2, some (.ref a3), some (.int x4), l5, l6, l7] [] (C m_LL_ride [.ref a1, .int (gI σ 18 (Int32.toNatClampNeg (x4 + (1 : Int32)))), .ref a3] σ) := by
  refine (r_aloadn 1 (show decode (zb m_LL_lawz) 2145 = .ok (.aload_n 1, 1) from by decide +kernel) rfl).trans ?_
  refine (r_aloadn 0 (show decode (zb m_LL_lawz) 2146 = .ok (.aload_n 0, 1) from by decide +kernel) rfl).trans ?_
  refine (r_iload 4 (show decode (zb m_LL_lawz) 2147 = .ok (.iload 4, 2) from by decide +kernel) rfl).trans ?_
  refine (r_iconst (v := (1 : Int32)) (show decode (zb m_LL_lawz) 2149 = .ok (.iconst (1), 1) from by decide +kernel) (by decide)).trans ?_
  refine (r_iadd (show decode (zb m_LL_lawz) 2150 = .ok (.iadd, 1) from by decide +kernel)).trans ?_
  refine (r_iald18 (show decode (zb m_LL_lawz) 2151 = .ok (.iaload, 1) from by decide +kernel) h1).trans ?_
  refine (r_aloadn 3 (show decode (zb m_LL_lawz) 2152 = .ok (.aload_n 3, 1) from by decide +kernel) rfl).trans ?_
  exact r_stat (args := [.ref a1, .int (gI σ 18 (Int32.toNatClampNeg (x4 + (1 : Int32)))), .ref a3]) (rest := []) (show decode (zb m_LL_lawz) 2153 = .ok (.invokestatic 234, 3) from by decide +kernel) rfl (by decide) rfl rfl
theorem b_LL_lawz_2156 {C : CF} {d : Nat} {σ : HP} {s0 : Int32} {a2 : Nat} {x4 : Int32} {l1 : Option Value} {l3 : Option Value} {l5 : Option Value} {l6 : Option Value} {l7 : Option Value} (h1 : inR (x4 + (1 : Int32)) (hL σ) = true) (h2 : a2 % 64 = 12) : runF C d m_LL_lawz (2156, [some (.ref 18), l1, some (.ref a2), l3, some (.int x4), l5, l6, l7], [.int s0], σ) = bk C d m_LL_lawz 2165 [some (.ref 18), l1, some (.ref a2), l3, some (.int x4), some (.int s0), l6, l7] [] (C m_Mo_ride [.ref a2, .int (gI σ 18 (Int32.toNatClampNeg (x4 + (1 : Int32))))] σ) := by
  refine (r_istore 5 (show decode (zb m_LL_lawz) 2156 = .ok (.istore 5, 2) from by decide +kernel) rfl).trans ?_
  refine (r_aloadn 2 (show decode (zb m_LL_lawz) 2158 = .ok (.aload_n 2, 1) from by decide +kernel) rfl).trans ?_
  refine (r_aloadn 0 (show decode (zb m_LL_lawz) 2159 = .ok (.aload_n 0, 1) from by decide +kernel) rfl).trans ?_
  refine (r_iload 4 (show decode (zb m_LL_lawz) 2160 = .ok (.iload 4, 2) from by decide +kernel) rfl).trans ?_
  refine (r_iconst (v := (1 : Int32)) (show decode (zb m_LL_lawz) 2162 = .ok (.iconst (1), 1) from by decide +kernel) (by decide)).trans ?_
  refine (r_iadd (show decode (zb m_LL_lawz) 2163 = .ok (.iadd, 1) from by decide +kernel)).trans ?_
  refine (r_iald18 (show decode (zb m_LL_lawz) 2164 = .ok (.iaload, 1) from by decide +kernel) h1).trans ?_
  exact r_virt (args := [.int (gI σ 18 (Int32.toNatClampNeg (x4 + (1 : Int32))))]) (rest := []) (show decode (zb m_LL_lawz) 2165 = .ok (.invokevirtual 236, 3) from by decide +kernel) rfl rfl rfl h2
theorem b_LL_lawz_2168 {C : CF} {d : Nat} {σ : HP} {s0 : Int32} {a2 : Nat} {l0 : Option Value} {l1 : Option Value} {l3 : Option Value} {l4 : Option Value} {l5 : Option Value} {l6 : Option Value} {l7 : Option Value} (h1 : a2 % 64 = 12) : runF C d m_LL_lawz (2168, [l0, l1, some (.ref a2), l3, l4, l5, l6, l7], [.int s0], σ) = bk C d m_LL_lawz 2171 [l0, l1, some (.ref a2), l3, l4, l5, some (.int s0), l7] [] (C m_Mo_thrown [.ref a2] σ) := by
  refine (r_istore 6 (show decode (zb m_LL_lawz) 2168 = .ok (.istore 6, 2) from by decide +kernel) rfl).trans ?_
  refine (r_aloadn 2 (show decode (zb m_LL_lawz) 2170 = .ok (.aload_n 2, 1) from by decide +kernel) rfl).trans ?_
  exact r_virt (args := []) (rest := []) (show decode (zb m_LL_lawz) 2171 = .ok (.invokevirtual 128, 3) from by decide +kernel) rfl rfl rfl h1
theorem b_LL_lawz_2174 {C : CF} {d : Nat} {σ : HP} {s0 : Int32} {x5 : Int32} {l0 : Option Value} {l1 : Option Value} {l2 : Option Value} {l3 : Option Value} {l4 : Option Value} {l6 : Option Value} {l7 : Option Value}  : runF C d m_LL_lawz (2174, [l0, l1, l2, l3, l4, some (.int x5), l6, l7], [.int s0], σ) = if s0 = x5 then runF C d m_LL_lawz (2181, [l0, l1, l2, l3, l4, some (.int x5), l6, l7], [], σ) else runF C d m_LL_lawz (2179, [l0, l1, l2, l3, l4, some (.int x5), l6, l7], [], σ) := by
  refine (r_iload 5 (show decode (zb m_LL_lawz) 2174 = .ok (.iload 5, 2) from by decide +kernel) rfl).trans ?_
  exact r_icmp_eq 2181 (show decode (zb m_LL_lawz) 2176 = .ok (.if_icmp .eq (5), 3) from by decide +kernel) rfl
theorem b_LL_lawz_2179 {C : CF} {d : Nat} {σ : HP} {l0 : Option Value} {l1 : Option Value} {l2 : Option Value} {l3 : Option Value} {l4 : Option Value} {l5 : Option Value} {l6 : Option Value} {l7 : Option Value}  : runF C d m_LL_lawz (2179, [l0, l1, l2, l3, l4, l5, l6, l7], [], σ) = some (.inl (some (.int (0 : Int32))), σ) := by
  refine (r_iconst (v := (0 : Int32)) (show decode (zb m_LL_lawz) 2179 = .ok (.iconst (0), 1) from by decide +kernel) (by decide)).trans ?_
  exact r_bret (show decode (zb m_LL_lawz) 2180 = .ok (.ireturn, 1) from by decide +kernel) rfl (by decide)
theorem b_LL_lawz_2181 {C : CF} {d : Nat} {σ : HP} {x5 : Int32} {l0 : Option Value} {l1 : Option Value} {l2 : Option Value} {l3 : Option Value} {l4 : Option Value} {l6 : Option Value} {l7 : Option Value}  : runF C d m_LL_lawz (2181, [l0, l1, l2, l3, l4, some (.int x5), l6, l7], [], σ) = if ¬ x5 = 0 then runF C d m_LL_lawz (2198, [l0, l1, l2, l3, l4, some (.int x5), l6, l7], [], σ) else runF C d m_LL_lawz (2186, [l0, l1, l2, l3, l4, some (.int x5), l6, l7], [], σ) := by
  refine (r_iload 5 (show decode (zb m_LL_lawz) 2181 = .ok (.iload 5, 2) from by decide +kernel) rfl).trans ?_
  exact r_if_ne 2198 (show decode (zb m_LL_lawz) 2183 = .ok (.ifCond .ne (15), 3) from by decide +kernel) rfl
theorem b_LL_lawz_2186 {C : CF} {d : Nat} {σ : HP} {a3 : Nat} {x6 : Int32} {l0 : Option Value} {l1 : Option Value} {l2 : Option Value} {l4 : Option Value} {l5 : Option Value} {l7 : Option Value} (h1 : aty (a3 % 64) = 2) (h2 : inR (0 : Int32) (alen (a3 % 64)) = true) : runF C d m_LL_lawz (2186, [l0, l1, l2, some (.ref a3), l4, l5, some (.int x6), l7], [], σ) = if (lg_cmp (gJ σ a3 (Int32.toNatClampNeg (0 : Int32))) (Int32.toInt64 x6)) = 0 then runF C d m_LL_lawz (2198, [l0, l1, l2, some (.ref a3), l4, l5, some (.int x6), l7], [], σ) else runF C d m_LL_lawz (2196, [l0, l1, l2, some (.ref a3), l4, l5, some (.int x6), l7], [], σ) := by
  refine (r_aloadn 3 (show decode (zb m_LL_lawz) 2186 = .ok (.aload_n 3, 1) from by decide +kernel) rfl).trans ?_
  refine (r_iconst (v := (0 : Int32)) (show decode (zb m_LL_lawz) 2187 = .ok (.iconst (0), 1) from by decide +kernel) (by decide)).trans ?_
  refine (r_lald (show decode (zb m_LL_lawz) 2188 = .ok (.laload, 1) from by decide +kernel) h1 h2).trans ?_
  refine (r_iload 6 (show decode (zb m_LL_lawz) 2189 = .ok (.iload 6, 2) from by decide +kernel) rfl).trans ?_
  refine (r_i2l (show decode (zb m_LL_lawz) 2191 = .ok (.i2l, 1) from by decide +kernel)).trans ?_
  refine (r_lcmp (show decode (zb m_LL_lawz) 2192 = .ok (.lcmp, 1) from by decide +kernel)).trans ?_
  exact r_if_eq 2198 (show decode (zb m_LL_lawz) 2193 = .ok (.ifCond .eq (5), 3) from by decide +kernel) rfl
theorem b_LL_lawz_2196 {C : CF} {d : Nat} {σ : HP} {l0 : Option Value} {l1 : Option Value} {l2 : Option Value} {l3 : Option Value} {l4 : Option Value} {l5 : Option Value} {l6 : Option Value} {l7 : Option Value}  : runF C d m_LL_lawz (2196, [l0, l1, l2, l3, l4, l5, l6, l7], [], σ) = some (.inl (some (.int (0 : Int32))), σ) := by
  refine (r_iconst (v := (0 : Int32)) (show decode (zb m_LL_lawz) 2196 = .ok (.iconst (0), 1) from by decide +kernel) (by decide)).trans ?_
  exact r_bret (show decode (zb m_LL_lawz) 2197 = .ok (.ireturn, 1) from by decide +kernel) rfl (by decide)
theorem b_LL_lawz_2198 {C : CF} {d : Nat} {σ : HP} {l0 : Option Value} {l1 : Option Value} {l2 : Option Value} {l3 : Option Value} {l4 : Option Value} {l5 : Option Value} {l6 : Option Value} {l7 : Option Value}  : runF C d m_LL_lawz (2198, [l0, l1, l2, l3, l4, l5, l6, l7], [], σ) = runF C d m_LL_lawz (2580, [l0, l1, l2, l3, l4, l5, l6, l7], [], σ) := by
  exact r_goto 2580 (show decode (zb m_LL_lawz) 2198 = .ok (.goto (382), 3) from by decide +kernel) rfl
theorem b_LL_lawz_2201 {C : CF} {d : Nat} {σ : HP} {a1 : Nat} {l0 : Option Value} {l2 : Option Value} {l3 : Option Value} {l4 : Option Value} {l5 : Option Value} {l6 : Option Value} {l7 : Option Value} (h1 : a1 % 64 = 11) : runF C d m_LL_lawz (2201, [l0, some (.ref a1), l2, l3, l4, l5, l6, l7], [], σ) = bk C d m_LL_lawz 2202 [l0, some (.ref a1), l2, l3, l4, l5, l6, l7] [] (C m_PL_vacant [.ref a1] σ) := by
  refine (r_aloadn 1 (show decode (zb m_LL_lawz) 2201 = .ok (.aload_n 1, 1) from by decide +kernel) rfl).trans ?_
  exact r_virt (args := []) (rest := []) (show decode (zb m_LL_lawz) 2202 = .ok (.invokevirtual 237, 3) from by decide +kernel) rfl rfl rfl h1
theorem b_LL_lawz_2205 {C : CF} {d : Nat} {σ : HP} {s0 : Int32} {a2 : Nat} {l0 : Option Value} {l1 : Option Value} {l3 : Option Value} {l4 : Option Value} {l5 : Option Value} {l6 : Option Value} {l7 : Option Value} (h1 : a2 % 64 = 12) : runF C d m_LL_lawz (2205, [l0, l1, some (.ref a2), l3, l4, l5, l6, l7], [.int s0], σ) = bk C d m_LL_lawz 2206 [l0, l1, some (.ref a2), l3, l4, l5, l6, l7] [.int s0] (C m_Mo_vacant [.ref a2] σ) := by
  refine (r_aloadn 2 (show decode (zb m_LL_lawz) 2205 = .ok (.aload_n 2, 1) from by decide +kernel) rfl).trans ?_
  exact r_virt (args := []) (rest := [.int s0]) (show decode (zb m_LL_lawz) 2206 = .ok (.invokevirtual 240, 3) from by decide +kernel) rfl rfl rfl h1
theorem b_LL_lawz_2209 {C : CF} {d : Nat} {σ : HP} {s0 : Int32} {s1 : Int32} {l0 : Option Value} {l1 : Option Value} {l2 : Option Value} {l3 : Option Value} {l4 : Option Value} {l5 : Option Value} {l6 : Option Value} {l7 : Option Value}  : runF C d m_LL_lawz (2209, [l0, l1, l2, l3, l4, l5, l6, l7], [.int s0, .int s1], σ) = if s1 = s0 then runF C d m_LL_lawz (2580, [l0, l1, l2, l3, l4, l5, l6, l7], [], σ) else runF C d m_LL_lawz (2212, [l0, l1, l2, l3, l4, l5, l6, l7], [], σ) := by
  exact r_icmp_eq 2580 (show decode (zb m_LL_lawz) 2209 = .ok (.if_icmp .eq (371), 3) from by decide +kernel) rfl
theorem b_LL_lawz_2212 {C : CF} {d : Nat} {σ : HP} {l0 : Option Value} {l1 : Option Value} {l2 : Option Value} {l3 : Option Value} {l4 : Option Value} {l5 : Option Value} {l6 : Option Value} {l7 : Option Value}  : runF C d m_LL_lawz (2212, [l0, l1, l2, l3, l4, l5, l6, l7], [], σ) = some (.inl (some (.int (0 : Int32))), σ) := by
  refine (r_iconst (v := (0 : Int32)) (show decode (zb m_LL_lawz) 2212 = .ok (.iconst (0), 1) from by decide +kernel) (by decide)).trans ?_
  exact r_bret (show decode (zb m_LL_lawz) 2213 = .ok (.ireturn, 1) from by decide +kernel) rfl (by decide)
theorem b_LL_lawz_2214 {C : CF} {d : Nat} {σ : HP} {a1 : Nat} {x4 : Int32} {a3 : Nat} {l2 : Option Value} {l5 : Option Value} {l6 : Option Value} {l7 : Option Value} (h1 : inR (x4 + (1 : Int32)) (hL σ) = true) (h2 : inR (x4 + (2 : Int32)) (hL σ) = true) (h3 : inR (x4 + (3 : Int32)) (hL σ) = true) : runF C d m_LL_lawz (2214, [some (.ref 18), some (.ref a1), l2, some (.ref a3), some (.int x4), l5, l6, l7], [], σ) = bkN C d m_LL_lawz 2234 [some (.ref 18), some (.ref a1), l2, some (.ref a3), some (.int x4), l5, l6, l7] [] (C m_LL_times [.ref a1, .int (gI σ 18 (Int32.toNatClampNeg (x4 + (1 : Int32)))), .int (gI σ 18 (Int32.toNatClampNeg (x4 + (2 : Int32)))), .int (gI σ 18 (Int32.toNatClampNeg (x4 + (3 : Int32)))), .ref a3] σ) := by
  refine (r_aloadn 1 (show decode (zb m_LL_lawz) 2214 = .ok (.aload_n 1, 1) from by decide +kernel) rfl).trans ?_
  refine (r_aloadn 0 (show decode (zb m_LL_lawz) 2215 = .ok (.aload_n 0, 1) from by decide +kernel) rfl).trans ?_
  refine (r_iload 4 (show decode (zb m_LL_lawz) 2216 = .ok (.iload 4, 2) from by decide +kernel) rfl).trans ?_
  refine (r_iconst (v := (1 : Int32)) (show decode (zb m_LL_lawz) 2218 = .ok (.iconst (1), 1) from by decide +kernel) (by decide)).trans ?_
  refine (r_iadd (show decode (zb m_LL_lawz) 2219 = .ok (.iadd, 1) from by decide +kernel)).trans ?_
  refine (r_iald18 (show decode (zb m_LL_lawz) 2220 = .ok (.iaload, 1) from by decide +kernel) h1).trans ?_
  refine (r_aloadn 0 (show decode (zb m_LL_lawz) 2221 = .ok (.aload_n 0, 1) from by decide +kernel) rfl).trans ?_
  refine (r_iload 4 (show decode (zb m_LL_lawz) 2222 = .ok (.iload 4, 2) from by decide +kernel) rfl).trans ?_
  refine (r_iconst (v := (2 : Int32)) (show decode (zb m_LL_lawz) 2224 = .ok (.iconst (2), 1) from by decide +kernel) (by decide)).trans ?_
  refine (r_iadd (show decode (zb m_LL_lawz) 2225 = .ok (.iadd, 1) from by decide +kernel)).trans ?_
  refine (r_iald18 (show decode (zb m_LL_lawz) 2226 = .ok (.iaload, 1) from by decide +kernel) h2).trans ?_
  refine (r_aloadn 0 (show decode (zb m_LL_lawz) 2227 = .ok (.aload_n 0, 1) from by decide +kernel) rfl).trans ?_
  refine (r_iload 4 (show decode (zb m_LL_lawz) 2228 = .ok (.iload 4, 2) from by decide +kernel) rfl).trans ?_
  refine (r_iconst (v := (3 : Int32)) (show decode (zb m_LL_lawz) 2230 = .ok (.iconst (3), 1) from by decide +kernel) (by decide)).trans ?_
  refine (r_iadd (show decode (zb m_LL_lawz) 2231 = .ok (.iadd, 1) from by decide +kernel)).trans ?_
  refine (r_iald18 (show decode (zb m_LL_lawz) 2232 = .ok (.iaload, 1) from by decide +kernel) h3).trans ?_
  refine (r_aloadn 3 (show decode (zb m_LL_lawz) 2233 = .ok (.aload_n 3, 1) from by decide +kernel) rfl).trans ?_
  exact r_stat (args := [.ref a1, .int (gI σ 18 (Int32.toNatClampNeg (x4 + (1 : Int32)))), .int (gI σ 18 (Int32.toNatClampNeg (x4 + (2 : Int32)))), .int (gI σ 18 (Int32.toNatClampNeg (x4 + (3 : Int32)))), .ref a3]) (rest := []) (show decode (zb m_LL_lawz) 2234 = .ok (.invokestatic 241, 3) from by decide +kernel) rfl (by decide) rfl rfl
theorem b_LL_lawz_2237 {C : CF} {d : Nat} {σ : HP} {s0 : Int32} {a2 : Nat} {x4 : Int32} {l1 : Option Value} {l3 : Option Value} {l5 : Option Value} {l6 : Option Value} {l7 : Option Value} (h1 : inR (x4 + (1 : Int32)) (hL σ) = true) (h2 : inR (x4 + (2 : Int32)) (hL σ) = true) (h3 : inR (x4 + (3 : Int32)) (hL σ) = true) (h4 : a2 % 64 = 12) : runF C d m_LL_lawz (2237, [some (.ref 18), l1, some (.ref a2), l3, some (.int x4), l5, l6, l7], [.int s0], σ) = bk C d m_LL_lawz 2258 [some (.ref 18), l1, some (.ref a2), l3, some (.int x4), some (.int s0), l6, l7] [] (C m_Mo_times [.ref a2, .int (gI σ 18 (Int32.toNatClampNeg (x4 + (1 : Int32)))), .int (gI σ 18 (Int32.toNatClampNeg (x4 + (2 : Int32)))), .int (gI σ 18 (Int32.toNatClampNeg (x4 + (3 : Int32))))] σ) := by
  refine (r_istore 5 (show decode (zb m_LL_lawz) 2237 = .ok (.istore 5, 2) from by decide +kernel) rfl).trans ?_
  refine (r_aloadn 2 (show decode (zb m_LL_lawz) 2239 = .ok (.aload_n 2, 1) from by decide +kernel) rfl).trans ?_
  refine (r_aloadn 0 (show decode (zb m_LL_lawz) 2240 = .ok (.aload_n 0, 1) from by decide +kernel) rfl).trans ?_
  refine (r_iload 4 (show decode (zb m_LL_lawz) 2241 = .ok (.iload 4, 2) from by decide +kernel) rfl).trans ?_
  refine (r_iconst (v := (1 : Int32)) (show decode (zb m_LL_lawz) 2243 = .ok (.iconst (1), 1) from by decide +kernel) (by decide)).trans ?_
  refine (r_iadd (show decode (zb m_LL_lawz) 2244 = .ok (.iadd, 1) from by decide +kernel)).trans ?_
  refine (r_iald18 (show decode (zb m_LL_lawz) 2245 = .ok (.iaload, 1) from by decide +kernel) h1).trans ?_
  refine (r_aloadn 0 (show decode (zb m_LL_lawz) 2246 = .ok (.aload_n 0, 1) from by decide +kernel) rfl).trans ?_
  refine (r_iload 4 (show decode (zb m_LL_lawz) 2247 = .ok (.iload 4, 2) from by decide +kernel) rfl).trans ?_
  refine (r_iconst (v := (2 : Int32)) (show decode (zb m_LL_lawz) 2249 = .ok (.iconst (2), 1) from by decide +kernel) (by decide)).trans ?_
  refine (r_iadd (show decode (zb m_LL_lawz) 2250 = .ok (.iadd, 1) from by decide +kernel)).trans ?_
  refine (r_iald18 (show decode (zb m_LL_lawz) 2251 = .ok (.iaload, 1) from by decide +kernel) h2).trans ?_
  refine (r_aloadn 0 (show decode (zb m_LL_lawz) 2252 = .ok (.aload_n 0, 1) from by decide +kernel) rfl).trans ?_
  refine (r_iload 4 (show decode (zb m_LL_lawz) 2253 = .ok (.iload 4, 2) from by decide +kernel) rfl).trans ?_
  refine (r_iconst (v := (3 : Int32)) (show decode (zb m_LL_lawz) 2255 = .ok (.iconst (3), 1) from by decide +kernel) (by decide)).trans ?_
  refine (r_iadd (show decode (zb m_LL_lawz) 2256 = .ok (.iadd, 1) from by decide +kernel)).trans ?_
  refine (r_iald18 (show decode (zb m_LL_lawz) 2257 = .ok (.iaload, 1) from by decide +kernel) h3).trans ?_
  exact r_virt (args := [.int (gI σ 18 (Int32.toNatClampNeg (x4 + (1 : Int32)))), .int (gI σ 18 (Int32.toNatClampNeg (x4 + (2 : Int32)))), .int (gI σ 18 (Int32.toNatClampNeg (x4 + (3 : Int32))))]) (rest := []) (show decode (zb m_LL_lawz) 2258 = .ok (.invokevirtual 243, 3) from by decide +kernel) rfl rfl rfl h4
theorem b_LL_lawz_2261 {C : CF} {d : Nat} {σ : HP} {s0 : Int32} {a2 : Nat} {l0 : Option Value} {l1 : Option Value} {l3 : Option Value} {l4 : Option Value} {l5 : Option Value} {l6 : Option Value} {l7 : Option Value} (h1 : a2 % 64 = 12) : runF C d m_LL_lawz (2261, [l0, l1, some (.ref a2), l3, l4, l5, l6, l7], [.int s0], σ) = bk C d m_LL_lawz 2264 [l0, l1, some (.ref a2), l3, l4, l5, some (.int s0), l7] [] (C m_Mo_thrown [.ref a2] σ) := by
  refine (r_istore 6 (show decode (zb m_LL_lawz) 2261 = .ok (.istore 6, 2) from by decide +kernel) rfl).trans ?_
  refine (r_aloadn 2 (show decode (zb m_LL_lawz) 2263 = .ok (.aload_n 2, 1) from by decide +kernel) rfl).trans ?_
  exact r_virt (args := []) (rest := []) (show decode (zb m_LL_lawz) 2264 = .ok (.invokevirtual 128, 3) from by decide +kernel) rfl rfl rfl h1
theorem b_LL_lawz_2267 {C : CF} {d : Nat} {σ : HP} {s0 : Int32} {x5 : Int32} {l0 : Option Value} {l1 : Option Value} {l2 : Option Value} {l3 : Option Value} {l4 : Option Value} {l6 : Option Value} {l7 : Option Value}  : runF C d m_LL_lawz (2267, [l0, l1, l2, l3, l4, some (.int x5), l6, l7], [.int s0], σ) = if s0 = x5 then runF C d m_LL_lawz (2274, [l0, l1, l2, l3, l4, some (.int x5), l6, l7], [], σ) else runF C d m_LL_lawz (2272, [l0, l1, l2, l3, l4, some (.int x5), l6, l7], [], σ) := by
  refine (r_iload 5 (show decode (zb m_LL_lawz) 2267 = .ok (.iload 5, 2) from by decide +kernel) rfl).trans ?_
  exact r_icmp_eq 2274 (show decode (zb m_LL_lawz) 2269 = .ok (.if_icmp .eq (5), 3) from by decide +kernel) rfl
theorem b_LL_lawz_2272 {C : CF} {d : Nat} {σ : HP} {l0 : Option Value} {l1 : Option Value} {l2 : Option Value} {l3 : Option Value} {l4 : Option Value} {l5 : Option Value} {l6 : Option Value} {l7 : Option Value}  : runF C d m_LL_lawz (2272, [l0, l1, l2, l3, l4, l5, l6, l7], [], σ) = some (.inl (some (.int (0 : Int32))), σ) := by
  refine (r_iconst (v := (0 : Int32)) (show decode (zb m_LL_lawz) 2272 = .ok (.iconst (0), 1) from by decide +kernel) (by decide)).trans ?_
  exact r_bret (show decode (zb m_LL_lawz) 2273 = .ok (.ireturn, 1) from by decide +kernel) rfl (by decide)
theorem b_LL_lawz_2274 {C : CF} {d : Nat} {σ : HP} {x5 : Int32} {l0 : Option Value} {l1 : Option Value} {l2 : Option Value} {l3 : Option Value} {l4 : Option Value} {l6 : Option Value} {l7 : Option Value}  : runF C d m_LL_lawz (2274, [l0, l1, l2, l3, l4, some (.int x5), l6, l7], [], σ) = if ¬ x5 = 0 then runF C d m_LL_lawz (2291, [l0, l1, l2, l3, l4, some (.int x5), l6, l7], [], σ) else runF C d m_LL_lawz (2279, [l0, l1, l2, l3, l4, some (.int x5), l6, l7], [], σ) := by
  refine (r_iload 5 (show decode (zb m_LL_lawz) 2274 = .ok (.iload 5, 2) from by decide +kernel) rfl).trans ?_
  exact r_if_ne 2291 (show decode (zb m_LL_lawz) 2276 = .ok (.ifCond .ne (15), 3) from by decide +kernel) rfl
theorem b_LL_lawz_2279 {C : CF} {d : Nat} {σ : HP} {a3 : Nat} {x6 : Int32} {l0 : Option Value} {l1 : Option Value} {l2 : Option Value} {l4 : Option Value} {l5 : Option Value} {l7 : Option Value} (h1 : aty (a3 % 64) = 2) (h2 : inR (0 : Int32) (alen (a3 % 64)) = true) : runF C d m_LL_lawz (2279, [l0, l1, l2, some (.ref a3), l4, l5, some (.int x6), l7], [], σ) = if (lg_cmp (gJ σ a3 (Int32.toNatClampNeg (0 : Int32))) (Int32.toInt64 x6)) = 0 then runF C d m_LL_lawz (2291, [l0, l1, l2, some (.ref a3), l4, l5, some (.int x6), l7], [], σ) else runF C d m_LL_lawz (2289, [l0, l1, l2, some (.ref a3), l4, l5, some (.int x6), l7], [], σ) := by
  refine (r_aloadn 3 (show decode (zb m_LL_lawz) 2279 = .ok (.aload_n 3, 1) from by decide +kernel) rfl).trans ?_
  refine (r_iconst (v := (0 : Int32)) (show decode (zb m_LL_lawz) 2280 = .ok (.iconst (0), 1) from by decide +kernel) (by decide)).trans ?_
  refine (r_lald (show decode (zb m_LL_lawz) 2281 = .ok (.laload, 1) from by decide +kernel) h1 h2).trans ?_
  refine (r_iload 6 (show decode (zb m_LL_lawz) 2282 = .ok (.iload 6, 2) from by decide +kernel) rfl).trans ?_
  refine (r_i2l (show decode (zb m_LL_lawz) 2284 = .ok (.i2l, 1) from by decide +kernel)).trans ?_
  refine (r_lcmp (show decode (zb m_LL_lawz) 2285 = .ok (.lcmp, 1) from by decide +kernel)).trans ?_
  exact r_if_eq 2291 (show decode (zb m_LL_lawz) 2286 = .ok (.ifCond .eq (5), 3) from by decide +kernel) rfl
theorem b_LL_lawz_2289 {C : CF} {d : Nat} {σ : HP} {l0 : Option Value} {l1 : Option Value} {l2 : Option Value} {l3 : Option Value} {l4 : Option Value} {l5 : Option Value} {l6 : Option Value} {l7 : Option Value}  : runF C d m_LL_lawz (2289, [l0, l1, l2, l3, l4, l5, l6, l7], [], σ) = some (.inl (some (.int (0 : Int32))), σ) := by
  refine (r_iconst (v := (0 : Int32)) (show decode (zb m_LL_lawz) 2289 = .ok (.iconst (0), 1) from by decide +kernel) (by decide)).trans ?_
  exact r_bret (show decode (zb m_LL_lawz) 2290 = .ok (.ireturn, 1) from by decide +kernel) rfl (by decide)
theorem b_LL_lawz_2291 {C : CF} {d : Nat} {σ : HP} {l0 : Option Value} {l1 : Option Value} {l2 : Option Value} {l3 : Option Value} {l4 : Option Value} {l5 : Option Value} {l6 : Option Value} {l7 : Option Value}  : runF C d m_LL_lawz (2291, [l0, l1, l2, l3, l4, l5, l6, l7], [], σ) = runF C d m_LL_lawz (2580, [l0, l1, l2, l3, l4, l5, l6, l7], [], σ) := by
  exact r_goto 2580 (show decode (zb m_LL_lawz) 2291 = .ok (.goto (289), 3) from by decide +kernel) rfl
theorem b_LL_lawz_2294 {C : CF} {d : Nat} {σ : HP} {a1 : Nat} {x4 : Int32} {a3 : Nat} {l2 : Option Value} {l5 : Option Value} {l6 : Option Value} {l7 : Option Value} (h1 : inR (x4 + (1 : Int32)) (hL σ) = true) (h2 : inR (x4 + (2 : Int32)) (hL σ) = true) (h3 : inR (x4 + (3 : Int32)) (hL σ) = true) (h4 : inR (x4 + (4 : Int32)) (hL σ) = true) : runF C d m_LL_lawz (2294, [some (.ref 18), some (.ref a1), l2, some (.ref a3), some (.int x4), l5, l6, l7], [], σ) = bkN C d m_LL_lawz 2320 [some (.ref 18), some (.ref a1), l2, some (.ref a3), some (.int x4), l5, l6, l7] [] (C m_LL_week [.ref a1, .int (gI σ 18 (Int32.toNatClampNeg (x4 + (1 : Int32)))), .int (gI σ 18 (Int32.toNatClampNeg (x4 + (2 : Int32)))), .int (gI σ 18 (Int32.toNatClampNeg (x4 + (3 : Int32)))), .int (gI σ 18 (Int32.toNatClampNeg (x4 + (4 : Int32)))), .ref a3] σ) := by
  refine (r_aloadn 1 (show decode (zb m_LL_lawz) 2294 = .ok (.aload_n 1, 1) from by decide +kernel) rfl).trans ?_
  refine (r_aloadn 0 (show decode (zb m_LL_lawz) 2295 = .ok (.aload_n 0, 1) from by decide +kernel) rfl).trans ?_
  refine (r_iload 4 (show decode (zb m_LL_lawz) 2296 = .ok (.iload 4, 2) from by decide +kernel) rfl).trans ?_
  refine (r_iconst (v := (1 : Int32)) (show decode (zb m_LL_lawz) 2298 = .ok (.iconst (1), 1) from by decide +kernel) (by decide)).trans ?_
  refine (r_iadd (show decode (zb m_LL_lawz) 2299 = .ok (.iadd, 1) from by decide +kernel)).trans ?_
  refine (r_iald18 (show decode (zb m_LL_lawz) 2300 = .ok (.iaload, 1) from by decide +kernel) h1).trans ?_
  refine (r_aloadn 0 (show decode (zb m_LL_lawz) 2301 = .ok (.aload_n 0, 1) from by decide +kernel) rfl).trans ?_
  refine (r_iload 4 (show decode (zb m_LL_lawz) 2302 = .ok (.iload 4, 2) from by decide +kernel) rfl).trans ?_
  refine (r_iconst (v := (2 : Int32)) (show decode (zb m_LL_lawz) 2304 = .ok (.iconst (2), 1) from by decide +kernel) (by decide)).trans ?_
  refine (r_iadd (show decode (zb m_LL_lawz) 2305 = .ok (.iadd, 1) from by decide +kernel)).trans ?_
  refine (r_iald18 (show decode (zb m_LL_lawz) 2306 = .ok (.iaload, 1) from by decide +kernel) h2).trans ?_
  refine (r_aloadn 0 (show decode (zb m_LL_lawz) 2307 = .ok (.aload_n 0, 1) from by decide +kernel) rfl).trans ?_
  refine (r_iload 4 (show decode (zb m_LL_lawz) 2308 = .ok (.iload 4, 2) from by decide +kernel) rfl).trans ?_
  refine (r_iconst (v := (3 : Int32)) (show decode (zb m_LL_lawz) 2310 = .ok (.iconst (3), 1) from by decide +kernel) (by decide)).trans ?_
  refine (r_iadd (show decode (zb m_LL_lawz) 2311 = .ok (.iadd, 1) from by decide +kernel)).trans ?_
  refine (r_iald18 (show decode (zb m_LL_lawz) 2312 = .ok (.iaload, 1) from by decide +kernel) h3).trans ?_
  refine (r_aloadn 0 (show decode (zb m_LL_lawz) 2313 = .ok (.aload_n 0, 1) from by decide +kernel) rfl).trans ?_
  refine (r_iload 4 (show decode (zb m_LL_lawz) 2314 = .ok (.iload 4, 2) from by decide +kernel) rfl).trans ?_
  refine (r_iconst (v := (4 : Int32)) (show decode (zb m_LL_lawz) 2316 = .ok (.iconst (4), 1) from by decide +kernel) (by decide)).trans ?_
  refine (r_iadd (show decode (zb m_LL_lawz) 2317 = .ok (.iadd, 1) from by decide +kernel)).trans ?_
  refine (r_iald18 (show decode (zb m_LL_lawz) 2318 = .ok (.iaload, 1) from by decide +kernel) h4).trans ?_
  refine (r_aloadn 3 (show decode (zb m_LL_lawz) 2319 = .ok (.aload_n 3, 1) from by decide +kernel) rfl).trans ?_
  exact r_stat (args := [.ref a1, .int (gI σ 18 (Int32.toNatClampNeg (x4 + (1 : Int32)))), .int (gI σ 18 (Int32.toNatClampNeg (x4 + (2 : Int32)))), .int (gI σ 18 (Int32.toNatClampNeg (x4 + (3 : Int32)))), .int (gI σ 18 (Int32.toNatClampNeg (x4 + (4 : Int32)))), .ref a3]) (rest := []) (show decode (zb m_LL_lawz) 2320 = .ok (.invokestatic 244, 3) from by decide +kernel) rfl (by decide) rfl rfl
theorem b_LL_lawz_2323 {C : CF} {d : Nat} {σ : HP} {s0 : Int32} {a2 : Nat} {x4 : Int32} {l1 : Option Value} {l3 : Option Value} {l5 : Option Value} {l6 : Option Value} {l7 : Option Value} (h1 : inR (x4 + (1 : Int32)) (hL σ) = true) (h2 : inR (x4 + (2 : Int32)) (hL σ) = true) (h3 : inR (x4 + (3 : Int32)) (hL σ) = true) (h4 : inR (x4 + (4 : Int32)) (hL σ) = true) (h5 : a2 % 64 = 12) : runF C d m_LL_lawz (2323, [some (.ref 18), l1, some (.ref a2), l3, some (.int x4), l5, l6, l7], [.int s0], σ) = bk C d m_LL_lawz 2350 [some (.ref 18), l1, some (.ref a2), l3, some (.int x4), some (.int s0), l6, l7] [] (C m_Mo_week [.ref a2, .int (gI σ 18 (Int32.toNatClampNeg (x4 + (1 : Int32)))), .int (gI σ 18 (Int32.toNatClampNeg (x4 + (2 : Int32)))), .int (gI σ 18 (Int32.toNatClampNeg (x4 + (3 : Int32)))), .int (gI σ 18 (Int32.toNatClampNeg (x4 + (4 : Int32))))] σ) := by
  refine (r_istore 5 (show decode (zb m_LL_lawz) 2323 = .ok (.istore 5, 2) from by decide +kernel) rfl).trans ?_
  refine (r_aloadn 2 (show decode (zb m_LL_lawz) 2325 = .ok (.aload_n 2, 1) from by decide +kernel) rfl).trans ?_
  refine (r_aloadn 0 (show decode (zb m_LL_lawz) 2326 = .ok (.aload_n 0, 1) from by decide +kernel) rfl).trans ?_
  refine (r_iload 4 (show decode (zb m_LL_lawz) 2327 = .ok (.iload 4, 2) from by decide +kernel) rfl).trans ?_
  refine (r_iconst (v := (1 : Int32)) (show decode (zb m_LL_lawz) 2329 = .ok (.iconst (1), 1) from by decide +kernel) (by decide)).trans ?_
  refine (r_iadd (show decode (zb m_LL_lawz) 2330 = .ok (.iadd, 1) from by decide +kernel)).trans ?_
  refine (r_iald18 (show decode (zb m_LL_lawz) 2331 = .ok (.iaload, 1) from by decide +kernel) h1).trans ?_
  refine (r_aloadn 0 (show decode (zb m_LL_lawz) 2332 = .ok (.aload_n 0, 1) from by decide +kernel) rfl).trans ?_
  refine (r_iload 4 (show decode (zb m_LL_lawz) 2333 = .ok (.iload 4, 2) from by decide +kernel) rfl).trans ?_
  refine (r_iconst (v := (2 : Int32)) (show decode (zb m_LL_lawz) 2335 = .ok (.iconst (2), 1) from by decide +kernel) (by decide)).trans ?_
  refine (r_iadd (show decode (zb m_LL_lawz) 2336 = .ok (.iadd, 1) from by decide +kernel)).trans ?_
  refine (r_iald18 (show decode (zb m_LL_lawz) 2337 = .ok (.iaload, 1) from by decide +kernel) h2).trans ?_
  refine (r_aloadn 0 (show decode (zb m_LL_lawz) 2338 = .ok (.aload_n 0, 1) from by decide +kernel) rfl).trans ?_
  refine (r_iload 4 (show decode (zb m_LL_lawz) 2339 = .ok (.iload 4, 2) from by decide +kernel) rfl).trans ?_
  refine (r_iconst (v := (3 : Int32)) (show decode (zb m_LL_lawz) 2341 = .ok (.iconst (3), 1) from by decide +kernel) (by decide)).trans ?_
  refine (r_iadd (show decode (zb m_LL_lawz) 2342 = .ok (.iadd, 1) from by decide +kernel)).trans ?_
  refine (r_iald18 (show decode (zb m_LL_lawz) 2343 = .ok (.iaload, 1) from by decide +kernel) h3).trans ?_
  refine (r_aloadn 0 (show decode (zb m_LL_lawz) 2344 = .ok (.aload_n 0, 1) from by decide +kernel) rfl).trans ?_
  refine (r_iload 4 (show decode (zb m_LL_lawz) 2345 = .ok (.iload 4, 2) from by decide +kernel) rfl).trans ?_
  refine (r_iconst (v := (4 : Int32)) (show decode (zb m_LL_lawz) 2347 = .ok (.iconst (4), 1) from by decide +kernel) (by decide)).trans ?_
  refine (r_iadd (show decode (zb m_LL_lawz) 2348 = .ok (.iadd, 1) from by decide +kernel)).trans ?_
  refine (r_iald18 (show decode (zb m_LL_lawz) 2349 = .ok (.iaload, 1) from by decide +kernel) h4).trans ?_
  exact r_virt (args := [.int (gI σ 18 (Int32.toNatClampNeg (x4 + (1 : Int32)))), .int (gI σ 18 (Int32.toNatClampNeg (x4 + (2 : Int32)))), .int (gI σ 18 (Int32.toNatClampNeg (x4 + (3 : Int32)))), .int (gI σ 18 (Int32.toNatClampNeg (x4 + (4 : Int32))))]) (rest := []) (show decode (zb m_LL_lawz) 2350 = .ok (.invokevirtual 246, 3) from by decide +kernel) rfl rfl rfl h5
theorem b_LL_lawz_2353 {C : CF} {d : Nat} {σ : HP} {s0 : Int32} {a2 : Nat} {l0 : Option Value} {l1 : Option Value} {l3 : Option Value} {l4 : Option Value} {l5 : Option Value} {l6 : Option Value} {l7 : Option Value} (h1 : a2 % 64 = 12) : runF C d m_LL_lawz (2353, [l0, l1, some (.ref a2), l3, l4, l5, l6, l7], [.int s0], σ) = bk C d m_LL_lawz 2356 [l0, l1, some (.ref a2), l3, l4, l5, some (.int s0), l7] [] (C m_Mo_thrown [.ref a2] σ) := by
  refine (r_istore 6 (show decode (zb m_LL_lawz) 2353 = .ok (.istore 6, 2) from by decide +kernel) rfl).trans ?_
  refine (r_aloadn 2 (show decode (zb m_LL_lawz) 2355 = .ok (.aload_n 2, 1) from by decide +kernel) rfl).trans ?_
  exact r_virt (args := []) (rest := []) (show decode (zb m_LL_lawz) 2356 = .ok (.invokevirtual 128, 3) from by decide +kernel) rfl rfl rfl h1
theorem b_LL_lawz_2359 {C : CF} {d : Nat} {σ : HP} {s0 : Int32} {x5 : Int32} {l0 : Option Value} {l1 : Option Value} {l2 : Option Value} {l3 : Option Value} {l4 : Option Value} {l6 : Option Value} {l7 : Option Value}  : runF C d m_LL_lawz (2359, [l0, l1, l2, l3, l4, some (.int x5), l6, l7], [.int s0], σ) = if s0 = x5 then runF C d m_LL_lawz (2366, [l0, l1, l2, l3, l4, some (.int x5), l6, l7], [], σ) else runF C d m_LL_lawz (2364, [l0, l1, l2, l3, l4, some (.int x5), l6, l7], [], σ) := by
  refine (r_iload 5 (show decode (zb m_LL_lawz) 2359 = .ok (.iload 5, 2) from by decide +kernel) rfl).trans ?_
  exact r_icmp_eq 2366 (show decode (zb m_LL_lawz) 2361 = .ok (.if_icmp .eq (5), 3) from by decide +kernel) rfl
theorem b_LL_lawz_2364 {C : CF} {d : Nat} {σ : HP} {l0 : Option Value} {l1 : Option Value} {l2 : Option Value} {l3 : Option Value} {l4 : Option Value} {l5 : Option Value} {l6 : Option Value} {l7 : Option Value}  : runF C d m_LL_lawz (2364, [l0, l1, l2, l3, l4, l5, l6, l7], [], σ) = some (.inl (some (.int (0 : Int32))), σ) := by
  refine (r_iconst (v := (0 : Int32)) (show decode (zb m_LL_lawz) 2364 = .ok (.iconst (0), 1) from by decide +kernel) (by decide)).trans ?_
  exact r_bret (show decode (zb m_LL_lawz) 2365 = .ok (.ireturn, 1) from by decide +kernel) rfl (by decide)
theorem b_LL_lawz_2366 {C : CF} {d : Nat} {σ : HP} {x5 : Int32} {l0 : Option Value} {l1 : Option Value} {l2 : Option Value} {l3 : Option Value} {l4 : Option Value} {l6 : Option Value} {l7 : Option Value}  : runF C d m_LL_lawz (2366, [l0, l1, l2, l3, l4, some (.int x5), l6, l7], [], σ) = if ¬ x5 = 0 then runF C d m_LL_lawz (2383, [l0, l1, l2, l3, l4, some (.int x5), l6, l7], [], σ) else runF C d m_LL_lawz (2371, [l0, l1, l2, l3, l4, some (.int x5), l6, l7], [], σ) := by
  refine (r_iload 5 (show decode (zb m_LL_lawz) 2366 = .ok (.iload 5, 2) from by decide +kernel) rfl).trans ?_
  exact r_if_ne 2383 (show decode (zb m_LL_lawz) 2368 = .ok (.ifCond .ne (15), 3) from by decide +kernel) rfl
theorem b_LL_lawz_2371 {C : CF} {d : Nat} {σ : HP} {a3 : Nat} {x6 : Int32} {l0 : Option Value} {l1 : Option Value} {l2 : Option Value} {l4 : Option Value} {l5 : Option Value} {l7 : Option Value} (h1 : aty (a3 % 64) = 2) (h2 : inR (0 : Int32) (alen (a3 % 64)) = true) : runF C d m_LL_lawz (2371, [l0, l1, l2, some (.ref a3), l4, l5, some (.int x6), l7], [], σ) = if (lg_cmp (gJ σ a3 (Int32.toNatClampNeg (0 : Int32))) (Int32.toInt64 x6)) = 0 then runF C d m_LL_lawz (2383, [l0, l1, l2, some (.ref a3), l4, l5, some (.int x6), l7], [], σ) else runF C d m_LL_lawz (2381, [l0, l1, l2, some (.ref a3), l4, l5, some (.int x6), l7], [], σ) := by
  refine (r_aloadn 3 (show decode (zb m_LL_lawz) 2371 = .ok (.aload_n 3, 1) from by decide +kernel) rfl).trans ?_
  refine (r_iconst (v := (0 : Int32)) (show decode (zb m_LL_lawz) 2372 = .ok (.iconst (0), 1) from by decide +kernel) (by decide)).trans ?_
  refine (r_lald (show decode (zb m_LL_lawz) 2373 = .ok (.laload, 1) from by decide +kernel) h1 h2).trans ?_
  refine (r_iload 6 (show decode (zb m_LL_lawz) 2374 = .ok (.iload 6, 2) from by decide +kernel) rfl).trans ?_
  refine (r_i2l (show decode (zb m_LL_lawz) 2376 = .ok (.i2l, 1) from by decide +kernel)).trans ?_
  refine (r_lcmp (show decode (zb m_LL_lawz) 2377 = .ok (.lcmp, 1) from by decide +kernel)).trans ?_
  exact r_if_eq 2383 (show decode (zb m_LL_lawz) 2378 = .ok (.ifCond .eq (5), 3) from by decide +kernel) rfl
theorem b_LL_lawz_2381 {C : CF} {d : Nat} {σ : HP} {l0 : Option Value} {l1 : Option Value} {l2 : Option Value} {l3 : Option Value} {l4 : Option Value} {l5 : Option Value} {l6 : Option Value} {l7 : Option Value}  : runF C d m_LL_lawz (2381, [l0, l1, l2, l3, l4, l5, l6, l7], [], σ) = some (.inl (some (.int (0 : Int32))), σ) := by
  refine (r_iconst (v := (0 : Int32)) (show decode (zb m_LL_lawz) 2381 = .ok (.iconst (0), 1) from by decide +kernel) (by decide)).trans ?_
  exact r_bret (show decode (zb m_LL_lawz) 2382 = .ok (.ireturn, 1) from by decide +kernel) rfl (by decide)
theorem b_LL_lawz_2383 {C : CF} {d : Nat} {σ : HP} {l0 : Option Value} {l1 : Option Value} {l2 : Option Value} {l3 : Option Value} {l4 : Option Value} {l5 : Option Value} {l6 : Option Value} {l7 : Option Value}  : runF C d m_LL_lawz (2383, [l0, l1, l2, l3, l4, l5, l6, l7], [], σ) = runF C d m_LL_lawz (2580, [l0, l1, l2, l3, l4, l5, l6, l7], [], σ) := by
  exact r_goto 2580 (show decode (zb m_LL_lawz) 2383 = .ok (.goto (197), 3) from by decide +kernel) rfl
theorem b_LL_lawz_2386 {C : CF} {d : Nat} {σ : HP} {a1 : Nat} {x4 : Int32} {a3 : Nat} {l2 : Option Value} {l5 : Option Value} {l6 : Option Value} {l7 : Option Value} (h1 : inR (x4 + (1 : Int32)) (hL σ) = true) (h2 : inR (x4 + (2 : Int32)) (hL σ) = true) (h3 : inR (x4 + (3 : Int32)) (hL σ) = true) (h4 : inR (x4 + (4 : Int32)) (hL σ) = true) (h5 : inR (x4 + (5 : Int32)) (hL σ) = true) (h6 : inR (x4 + (6 : Int32)) (hL σ) = true) : runF C d m_LL_lawz (2386, [some (.ref 18), some (.ref a1), l2, some (.ref a3), some (.int x4), l5, l6, l7], [], σ) = bkN C d m_LL_lawz 2425 [some (.ref 18), some (.ref a1), l2, some (.ref a3), some (.int x4), l5, l6, l7] [] (C m_LL_span [.ref a1, .int (gI σ 18 (Int32.toNatClampNeg (x4 + (1 : Int32)))), .int (gI σ 18 (Int32.toNatClampNeg (x4 + (2 : Int32)))), .int (gI σ 18 (Int32.toNatClampNeg (x4 + (3 : Int32)))), .int (gI σ 18 (Int32.toNatClampNeg (x4 + (4 : Int32)))), .int (gI σ 18 (Int32.toNatClampNeg (x4 + (5 : Int32)))), .int (gI σ 18 (Int32.toNatClampNeg (x4 + (6 : Int32)))), .ref a3] σ) := by
  refine (r_aloadn 1 (show decode (zb m_LL_lawz) 2386 = .ok (.aload_n 1, 1) from by decide +kernel) rfl).trans ?_
  refine (r_aloadn 0 (show decode (zb m_LL_lawz) 2387 = .ok (.aload_n 0, 1) from by decide +kernel) rfl).trans ?_
  refine (r_iload 4 (show decode (zb m_LL_lawz) 2388 = .ok (.iload 4, 2) from by decide +kernel) rfl).trans ?_
  refine (r_iconst (v := (1 : Int32)) (show decode (zb m_LL_lawz) 2390 = .ok (.iconst (1), 1) from by decide +kernel) (by decide)).trans ?_
  refine (r_iadd (show decode (zb m_LL_lawz) 2391 = .ok (.iadd, 1) from by decide +kernel)).trans ?_
  refine (r_iald18 (show decode (zb m_LL_lawz) 2392 = .ok (.iaload, 1) from by decide +kernel) h1).trans ?_
  refine (r_aloadn 0 (show decode (zb m_LL_lawz) 2393 = .ok (.aload_n 0, 1) from by decide +kernel) rfl).trans ?_
  refine (r_iload 4 (show decode (zb m_LL_lawz) 2394 = .ok (.iload 4, 2) from by decide +kernel) rfl).trans ?_
  refine (r_iconst (v := (2 : Int32)) (show decode (zb m_LL_lawz) 2396 = .ok (.iconst (2), 1) from by decide +kernel) (by decide)).trans ?_
  refine (r_iadd (show decode (zb m_LL_lawz) 2397 = .ok (.iadd, 1) from by decide +kernel)).trans ?_
  refine (r_iald18 (show decode (zb m_LL_lawz) 2398 = .ok (.iaload, 1) from by decide +kernel) h2).trans ?_
  refine (r_aloadn 0 (show decode (zb m_LL_lawz) 2399 = .ok (.aload_n 0, 1) from by decide +kernel) rfl).trans ?_
  refine (r_iload 4 (show decode (zb m_LL_lawz) 2400 = .ok (.iload 4, 2) from by decide +kernel) rfl).trans ?_
  refine (r_iconst (v := (3 : Int32)) (show decode (zb m_LL_lawz) 2402 = .ok (.iconst (3), 1) from by decide +kernel) (by decide)).trans ?_
  refine (r_iadd (show decode (zb m_LL_lawz) 2403 = .ok (.iadd, 1) from by decide +kernel)).trans ?_
  refine (r_iald18 (show decode (zb m_LL_lawz) 2404 = .ok (.iaload, 1) from by decide +kernel) h3).trans ?_
  refine (r_aloadn 0 (show decode (zb m_LL_lawz) 2405 = .ok (.aload_n 0, 1) from by decide +kernel) rfl).trans ?_
  refine (r_iload 4 (show decode (zb m_LL_lawz) 2406 = .ok (.iload 4, 2) from by decide +kernel) rfl).trans ?_
  refine (r_iconst (v := (4 : Int32)) (show decode (zb m_LL_lawz) 2408 = .ok (.iconst (4), 1) from by decide +kernel) (by decide)).trans ?_
  refine (r_iadd (show decode (zb m_LL_lawz) 2409 = .ok (.iadd, 1) from by decide +kernel)).trans ?_
  refine (r_iald18 (show decode (zb m_LL_lawz) 2410 = .ok (.iaload, 1) from by decide +kernel) h4).trans ?_
  refine (r_aloadn 0 (show decode (zb m_LL_lawz) 2411 = .ok (.aload_n 0, 1) from by decide +kernel) rfl).trans ?_
  refine (r_iload 4 (show decode (zb m_LL_lawz) 2412 = .ok (.iload 4, 2) from by decide +kernel) rfl).trans ?_
  refine (r_iconst (v := (5 : Int32)) (show decode (zb m_LL_lawz) 2414 = .ok (.iconst (5), 1) from by decide +kernel) (by decide)).trans ?_
  refine (r_iadd (show decode (zb m_LL_lawz) 2415 = .ok (.iadd, 1) from by decide +kernel)).trans ?_
  refine (r_iald18 (show decode (zb m_LL_lawz) 2416 = .ok (.iaload, 1) from by decide +kernel) h5).trans ?_
  refine (r_aloadn 0 (show decode (zb m_LL_lawz) 2417 = .ok (.aload_n 0, 1) from by decide +kernel) rfl).trans ?_
  refine (r_iload 4 (show decode (zb m_LL_lawz) 2418 = .ok (.iload 4, 2) from by decide +kernel) rfl).trans ?_
  refine (r_bipush (v := (6 : Int32)) (show decode (zb m_LL_lawz) 2420 = .ok (.bipush (6), 2) from by decide +kernel) (by decide)).trans ?_
  refine (r_iadd (show decode (zb m_LL_lawz) 2422 = .ok (.iadd, 1) from by decide +kernel)).trans ?_
  refine (r_iald18 (show decode (zb m_LL_lawz) 2423 = .ok (.iaload, 1) from by decide +kernel) h6).trans ?_
  refine (r_aloadn 3 (show decode (zb m_LL_lawz) 2424 = .ok (.aload_n 3, 1) from by decide +kernel) rfl).trans ?_
  exact r_stat (args := [.ref a1, .int (gI σ 18 (Int32.toNatClampNeg (x4 + (1 : Int32)))), .int (gI σ 18 (Int32.toNatClampNeg (x4 + (2 : Int32)))), .int (gI σ 18 (Int32.toNatClampNeg (x4 + (3 : Int32)))), .int (gI σ 18 (Int32.toNatClampNeg (x4 + (4 : Int32)))), .int (gI σ 18 (Int32.toNatClampNeg (x4 + (5 : Int32)))), .int (gI σ 18 (Int32.toNatClampNeg (x4 + (6 : Int32)))), .ref a3]) (rest := []) (show decode (zb m_LL_lawz) 2425 = .ok (.invokestatic 247, 3) from by decide +kernel) rfl (by decide) rfl rfl
theorem b_LL_lawz_2428 {C : CF} {d : Nat} {σ : HP} {s0 : Int32} {a2 : Nat} {x4 : Int32} {l1 : Option Value} {l3 : Option Value} {l5 : Option Value} {l6 : Option Value} {l7 : Option Value} (h1 : inR (x4 + (1 : Int32)) (hL σ) = true) (h2 : inR (x4 + (2 : Int32)) (hL σ) = true) (h3 : inR (x4 + (3 : Int32)) (hL σ) = true) (h4 : inR (x4 + (4 : Int32)) (hL σ) = true) (h5 : inR (x4 + (5 : Int32)) (hL σ) = true) (h6 : inR (x4 + (6 : Int32)) (hL σ) = true) (h7 : a2 % 64 = 12) : runF C d m_LL_lawz (2428, [some (.ref 18), l1, some (.ref a2), l3, some (.int x4), l5, l6, l7], [.int s0], σ) = bk C d m_LL_lawz 2468 [some (.ref 18), l1, some (.ref a2), l3, some (.int x4), some (.int s0), l6, l7] [] (C m_Mo_span [.ref a2, .int (gI σ 18 (Int32.toNatClampNeg (x4 + (1 : Int32)))), .int (gI σ 18 (Int32.toNatClampNeg (x4 + (2 : Int32)))), .int (gI σ 18 (Int32.toNatClampNeg (x4 + (3 : Int32)))), .int (gI σ 18 (Int32.toNatClampNeg (x4 + (4 : Int32)))), .int (gI σ 18 (Int32.toNatClampNeg (x4 + (5 : Int32)))), .int (gI σ 18 (Int32.toNatClampNeg (x4 + (6 : Int32))))] σ) := by
  refine (r_istore 5 (show decode (zb m_LL_lawz) 2428 = .ok (.istore 5, 2) from by decide +kernel) rfl).trans ?_
  refine (r_aloadn 2 (show decode (zb m_LL_lawz) 2430 = .ok (.aload_n 2, 1) from by decide +kernel) rfl).trans ?_
  refine (r_aloadn 0 (show decode (zb m_LL_lawz) 2431 = .ok (.aload_n 0, 1) from by decide +kernel) rfl).trans ?_
  refine (r_iload 4 (show decode (zb m_LL_lawz) 2432 = .ok (.iload 4, 2) from by decide +kernel) rfl).trans ?_
  refine (r_iconst (v := (1 : Int32)) (show decode (zb m_LL_lawz) 2434 = .ok (.iconst (1), 1) from by decide +kernel) (by decide)).trans ?_
  refine (r_iadd (show decode (zb m_LL_lawz) 2435 = .ok (.iadd, 1) from by decide +kernel)).trans ?_
  refine (r_iald18 (show decode (zb m_LL_lawz) 2436 = .ok (.iaload, 1) from by decide +kernel) h1).trans ?_
  refine (r_aloadn 0 (show decode (zb m_LL_lawz) 2437 = .ok (.aload_n 0, 1) from by decide +kernel) rfl).trans ?_
  refine (r_iload 4 (show decode (zb m_LL_lawz) 2438 = .ok (.iload 4, 2) from by decide +kernel) rfl).trans ?_
  refine (r_iconst (v := (2 : Int32)) (show decode (zb m_LL_lawz) 2440 = .ok (.iconst (2), 1) from by decide +kernel) (by decide)).trans ?_
  refine (r_iadd (show decode (zb m_LL_lawz) 2441 = .ok (.iadd, 1) from by decide +kernel)).trans ?_
  refine (r_iald18 (show decode (zb m_LL_lawz) 2442 = .ok (.iaload, 1) from by decide +kernel) h2).trans ?_
  refine (r_aloadn 0 (show decode (zb m_LL_lawz) 2443 = .ok (.aload_n 0, 1) from by decide +kernel) rfl).trans ?_
  refine (r_iload 4 (show decode (zb m_LL_lawz) 2444 = .ok (.iload 4, 2) from by decide +kernel) rfl).trans ?_
  refine (r_iconst (v := (3 : Int32)) (show decode (zb m_LL_lawz) 2446 = .ok (.iconst (3), 1) from by decide +kernel) (by decide)).trans ?_
  refine (r_iadd (show decode (zb m_LL_lawz) 2447 = .ok (.iadd, 1) from by decide +kernel)).trans ?_
  refine (r_iald18 (show decode (zb m_LL_lawz) 2448 = .ok (.iaload, 1) from by decide +kernel) h3).trans ?_
  refine (r_aloadn 0 (show decode (zb m_LL_lawz) 2449 = .ok (.aload_n 0, 1) from by decide +kernel) rfl).trans ?_
  refine (r_iload 4 (show decode (zb m_LL_lawz) 2450 = .ok (.iload 4, 2) from by decide +kernel) rfl).trans ?_
  refine (r_iconst (v := (4 : Int32)) (show decode (zb m_LL_lawz) 2452 = .ok (.iconst (4), 1) from by decide +kernel) (by decide)).trans ?_
  refine (r_iadd (show decode (zb m_LL_lawz) 2453 = .ok (.iadd, 1) from by decide +kernel)).trans ?_
  refine (r_iald18 (show decode (zb m_LL_lawz) 2454 = .ok (.iaload, 1) from by decide +kernel) h4).trans ?_
  refine (r_aloadn 0 (show decode (zb m_LL_lawz) 2455 = .ok (.aload_n 0, 1) from by decide +kernel) rfl).trans ?_
  refine (r_iload 4 (show decode (zb m_LL_lawz) 2456 = .ok (.iload 4, 2) from by decide +kernel) rfl).trans ?_
  refine (r_iconst (v := (5 : Int32)) (show decode (zb m_LL_lawz) 2458 = .ok (.iconst (5), 1) from by decide +kernel) (by decide)).trans ?_
  refine (r_iadd (show decode (zb m_LL_lawz) 2459 = .ok (.iadd, 1) from by decide +kernel)).trans ?_
  refine (r_iald18 (show decode (zb m_LL_lawz) 2460 = .ok (.iaload, 1) from by decide +kernel) h5).trans ?_
  refine (r_aloadn 0 (show decode (zb m_LL_lawz) 2461 = .ok (.aload_n 0, 1) from by decide +kernel) rfl).trans ?_
  refine (r_iload 4 (show decode (zb m_LL_lawz) 2462 = .ok (.iload 4, 2) from by decide +kernel) rfl).trans ?_
  refine (r_bipush (v := (6 : Int32)) (show decode (zb m_LL_lawz) 2464 = .ok (.bipush (6), 2) from by decide +kernel) (by decide)).trans ?_
  refine (r_iadd (show decode (zb m_LL_lawz) 2466 = .ok (.iadd, 1) from by decide +kernel)).trans ?_
  refine (r_iald18 (show decode (zb m_LL_lawz) 2467 = .ok (.iaload, 1) from by decide +kernel) h6).trans ?_
  exact r_virt (args := [.int (gI σ 18 (Int32.toNatClampNeg (x4 + (1 : Int32)))), .int (gI σ 18 (Int32.toNatClampNeg (x4 + (2 : Int32)))), .int (gI σ 18 (Int32.toNatClampNeg (x4 + (3 : Int32)))), .int (gI σ 18 (Int32.toNatClampNeg (x4 + (4 : Int32)))), .int (gI σ 18 (Int32.toNatClampNeg (x4 + (5 : Int32)))), .int (gI σ 18 (Int32.toNatClampNeg (x4 + (6 : Int32))))]) (rest := []) (show decode (zb m_LL_lawz) 2468 = .ok (.invokevirtual 250, 3) from by decide +kernel) rfl rfl rfl h7
theorem b_LL_lawz_2471 {C : CF} {d : Nat} {σ : HP} {s0 : Int32} {a2 : Nat} {l0 : Option Value} {l1 : Option Value} {l3 : Option Value} {l4 : Option Value} {l5 : Option Value} {l6 : Option Value} {l7 : Option Value} (h1 : a2 % 64 = 12) : runF C d m_LL_lawz (2471, [l0, l1, some (.ref a2), l3, l4, l5, l6, l7], [.int s0], σ) = bk C d m_LL_lawz 2474 [l0, l1, some (.ref a2), l3, l4, l5, some (.int s0), l7] [] (C m_Mo_thrown [.ref a2] σ) := by
  refine (r_istore 6 (show decode (zb m_LL_lawz) 2471 = .ok (.istore 6, 2) from by decide +kernel) rfl).trans ?_
  refine (r_aloadn 2 (show decode (zb m_LL_lawz) 2473 = .ok (.aload_n 2, 1) from by decide +kernel) rfl).trans ?_
  exact r_virt (args := []) (rest := []) (show decode (zb m_LL_lawz) 2474 = .ok (.invokevirtual 128, 3) from by decide +kernel) rfl rfl rfl h1
theorem b_LL_lawz_2477 {C : CF} {d : Nat} {σ : HP} {s0 : Int32} {x5 : Int32} {l0 : Option Value} {l1 : Option Value} {l2 : Option Value} {l3 : Option Value} {l4 : Option Value} {l6 : Option Value} {l7 : Option Value}  : runF C d m_LL_lawz (2477, [l0, l1, l2, l3, l4, some (.int x5), l6, l7], [.int s0], σ) = if s0 = x5 then runF C d m_LL_lawz (2484, [l0, l1, l2, l3, l4, some (.int x5), l6, l7], [], σ) else runF C d m_LL_lawz (2482, [l0, l1, l2, l3, l4, some (.int x5), l6, l7], [], σ) := by
  refine (r_iload 5 (show decode (zb m_LL_lawz) 2477 = .ok (.iload 5, 2) from by decide +kernel) rfl).trans ?_
  exact r_icmp_eq 2484 (show decode (zb m_LL_lawz) 2479 = .ok (.if_icmp .eq (5), 3) from by decide +kernel) rfl
theorem b_LL_lawz_2482 {C : CF} {d : Nat} {σ : HP} {l0 : Option Value} {l1 : Option Value} {l2 : Option Value} {l3 : Option Value} {l4 : Option Value} {l5 : Option Value} {l6 : Option Value} {l7 : Option Value}  : runF C d m_LL_lawz (2482, [l0, l1, l2, l3, l4, l5, l6, l7], [], σ) = some (.inl (some (.int (0 : Int32))), σ) := by
  refine (r_iconst (v := (0 : Int32)) (show decode (zb m_LL_lawz) 2482 = .ok (.iconst (0), 1) from by decide +kernel) (by decide)).trans ?_
  exact r_bret (show decode (zb m_LL_lawz) 2483 = .ok (.ireturn, 1) from by decide +kernel) rfl (by decide)
theorem b_LL_lawz_2484 {C : CF} {d : Nat} {σ : HP} {x5 : Int32} {l0 : Option Value} {l1 : Option Value} {l2 : Option Value} {l3 : Option Value} {l4 : Option Value} {l6 : Option Value} {l7 : Option Value}  : runF C d m_LL_lawz (2484, [l0, l1, l2, l3, l4, some (.int x5), l6, l7], [], σ) = if ¬ x5 = 0 then runF C d m_LL_lawz (2501, [l0, l1, l2, l3, l4, some (.int x5), l6, l7], [], σ) else runF C d m_LL_lawz (2489, [l0, l1, l2, l3, l4, some (.int x5), l6, l7], [], σ) := by
  refine (r_iload 5 (show decode (zb m_LL_lawz) 2484 = .ok (.iload 5, 2) from by decide +kernel) rfl).trans ?_
  exact r_if_ne 2501 (show decode (zb m_LL_lawz) 2486 = .ok (.ifCond .ne (15), 3) from by decide +kernel) rfl
theorem b_LL_lawz_2489 {C : CF} {d : Nat} {σ : HP} {a3 : Nat} {x6 : Int32} {l0 : Option Value} {l1 : Option Value} {l2 : Option Value} {l4 : Option Value} {l5 : Option Value} {l7 : Option Value} (h1 : aty (a3 % 64) = 2) (h2 : inR (0 : Int32) (alen (a3 % 64)) = true) : runF C d m_LL_lawz (2489, [l0, l1, l2, some (.ref a3), l4, l5, some (.int x6), l7], [], σ) = if (lg_cmp (gJ σ a3 (Int32.toNatClampNeg (0 : Int32))) (Int32.toInt64 x6)) = 0 then runF C d m_LL_lawz (2501, [l0, l1, l2, some (.ref a3), l4, l5, some (.int x6), l7], [], σ) else runF C d m_LL_lawz (2499, [l0, l1, l2, some (.ref a3), l4, l5, some (.int x6), l7], [], σ) := by
  refine (r_aloadn 3 (show decode (zb m_LL_lawz) 2489 = .ok (.aload_n 3, 1) from by decide +kernel) rfl).trans ?_
  refine (r_iconst (v := (0 : Int32)) (show decode (zb m_LL_lawz) 2490 = .ok (.iconst (0), 1) from by decide +kernel) (by decide)).trans ?_
  refine (r_lald (show decode (zb m_LL_lawz) 2491 = .ok (.laload, 1) from by decide +kernel) h1 h2).trans ?_
  refine (r_iload 6 (show decode (zb m_LL_lawz) 2492 = .ok (.iload 6, 2) from by decide +kernel) rfl).trans ?_
  refine (r_i2l (show decode (zb m_LL_lawz) 2494 = .ok (.i2l, 1) from by decide +kernel)).trans ?_
  refine (r_lcmp (show decode (zb m_LL_lawz) 2495 = .ok (.lcmp, 1) from by decide +kernel)).trans ?_
  exact r_if_eq 2501 (show decode (zb m_LL_lawz) 2496 = .ok (.ifCond .eq (5), 3) from by decide +kernel) rfl
theorem b_LL_lawz_2499 {C : CF} {d : Nat} {σ : HP} {l0 : Option Value} {l1 : Option Value} {l2 : Option Value} {l3 : Option Value} {l4 : Option Value} {l5 : Option Value} {l6 : Option Value} {l7 : Option Value}  : runF C d m_LL_lawz (2499, [l0, l1, l2, l3, l4, l5, l6, l7], [], σ) = some (.inl (some (.int (0 : Int32))), σ) := by
  refine (r_iconst (v := (0 : Int32)) (show decode (zb m_LL_lawz) 2499 = .ok (.iconst (0), 1) from by decide +kernel) (by decide)).trans ?_
  exact r_bret (show decode (zb m_LL_lawz) 2500 = .ok (.ireturn, 1) from by decide +kernel) rfl (by decide)
theorem b_LL_lawz_2501 {C : CF} {d : Nat} {σ : HP} {l0 : Option Value} {l1 : Option Value} {l2 : Option Value} {l3 : Option Value} {l4 : Option Value} {l5 : Option Value} {l6 : Option Value} {l7 : Option Value}  : runF C d m_LL_lawz (2501, [l0, l1, l2, l3, l4, l5, l6, l7], [], σ) = runF C d m_LL_lawz (2580, [l0, l1, l2, l3, l4, l5, l6, l7], [], σ) := by
  exact r_goto 2580 (show decode (zb m_LL_lawz) 2501 = .ok (.goto (79), 3) from by decide +kernel) rfl
theorem b_LL_lawz_2504 {C : CF} {d : Nat} {σ : HP} {a1 : Nat} {l0 : Option Value} {l2 : Option Value} {l3 : Option Value} {l4 : Option Value} {l5 : Option Value} {l6 : Option Value} {l7 : Option Value} (h1 : a1 % 64 = 11) : runF C d m_LL_lawz (2504, [l0, some (.ref a1), l2, l3, l4, l5, l6, l7], [], σ) = bk C d m_LL_lawz 2505 [l0, some (.ref a1), l2, l3, l4, l5, l6, l7] [] (C m_PL_image [.ref a1] σ) := by
  refine (r_aloadn 1 (show decode (zb m_LL_lawz) 2504 = .ok (.aload_n 1, 1) from by decide +kernel) rfl).trans ?_
  exact r_virt (args := []) (rest := []) (show decode (zb m_LL_lawz) 2505 = .ok (.invokevirtual 251, 3) from by decide +kernel) rfl rfl rfl h1
theorem b_LL_lawz_2508 {C : CF} {d : Nat} {σ : HP} {s0 : Int32} {a2 : Nat} {l0 : Option Value} {l1 : Option Value} {l3 : Option Value} {l4 : Option Value} {l5 : Option Value} {l6 : Option Value} {l7 : Option Value} (h1 : a2 % 64 = 12) : runF C d m_LL_lawz (2508, [l0, l1, some (.ref a2), l3, l4, l5, l6, l7], [.int s0], σ) = bk C d m_LL_lawz 2509 [l0, l1, some (.ref a2), l3, l4, l5, l6, l7] [.int s0] (C m_Mo_image [.ref a2] σ) := by
  refine (r_aloadn 2 (show decode (zb m_LL_lawz) 2508 = .ok (.aload_n 2, 1) from by decide +kernel) rfl).trans ?_
  exact r_virt (args := []) (rest := [.int s0]) (show decode (zb m_LL_lawz) 2509 = .ok (.invokevirtual 254, 3) from by decide +kernel) rfl rfl rfl h1
theorem b_LL_lawz_2512 {C : CF} {d : Nat} {σ : HP} {s0 : Int32} {s1 : Int32} {l0 : Option Value} {l1 : Option Value} {l2 : Option Value} {l3 : Option Value} {l4 : Option Value} {l5 : Option Value} {l6 : Option Value} {l7 : Option Value}  : runF C d m_LL_lawz (2512, [l0, l1, l2, l3, l4, l5, l6, l7], [.int s0, .int s1], σ) = if s1 = s0 then runF C d m_LL_lawz (2580, [l0, l1, l2, l3, l4, l5, l6, l7], [], σ) else runF C d m_LL_lawz (2515, [l0, l1, l2, l3, l4, l5, l6, l7], [], σ) := by
  exact r_icmp_eq 2580 (show decode (zb m_LL_lawz) 2512 = .ok (.if_icmp .eq (68), 3) from by decide +kernel) rfl
theorem b_LL_lawz_2515 {C : CF} {d : Nat} {σ : HP} {l0 : Option Value} {l1 : Option Value} {l2 : Option Value} {l3 : Option Value} {l4 : Option Value} {l5 : Option Value} {l6 : Option Value} {l7 : Option Value}  : runF C d m_LL_lawz (2515, [l0, l1, l2, l3, l4, l5, l6, l7], [], σ) = some (.inl (some (.int (0 : Int32))), σ) := by
  refine (r_iconst (v := (0 : Int32)) (show decode (zb m_LL_lawz) 2515 = .ok (.iconst (0), 1) from by decide +kernel) (by decide)).trans ?_
  exact r_bret (show decode (zb m_LL_lawz) 2516 = .ok (.ireturn, 1) from by decide +kernel) rfl (by decide)
theorem b_LL_lawz_2517 {C : CF} {d : Nat} {σ : HP} {a1 : Nat} {l0 : Option Value} {l2 : Option Value} {l3 : Option Value} {l4 : Option Value} {l5 : Option Value} {l6 : Option Value} {l7 : Option Value} (h1 : a1 % 64 = 11) : runF C d m_LL_lawz (2517, [l0, some (.ref a1), l2, l3, l4, l5, l6, l7], [], σ) = bk C d m_LL_lawz 2518 [l0, some (.ref a1), l2, l3, l4, l5, l6, l7] [] (C m_PL_restore [.ref a1] σ) := by
  refine (r_aloadn 1 (show decode (zb m_LL_lawz) 2517 = .ok (.aload_n 1, 1) from by decide +kernel) rfl).trans ?_
  exact r_virt (args := []) (rest := []) (show decode (zb m_LL_lawz) 2518 = .ok (.invokevirtual 255, 3) from by decide +kernel) rfl rfl rfl h1
theorem b_LL_lawz_2521 {C : CF} {d : Nat} {σ : HP} {s0 : Int32} {a2 : Nat} {l0 : Option Value} {l1 : Option Value} {l3 : Option Value} {l4 : Option Value} {l5 : Option Value} {l6 : Option Value} {l7 : Option Value} (h1 : a2 % 64 = 12) : runF C d m_LL_lawz (2521, [l0, l1, some (.ref a2), l3, l4, l5, l6, l7], [.int s0], σ) = bk C d m_LL_lawz 2522 [l0, l1, some (.ref a2), l3, l4, l5, l6, l7] [.int s0] (C m_Mo_restore [.ref a2] σ) := by
  refine (r_aloadn 2 (show decode (zb m_LL_lawz) 2521 = .ok (.aload_n 2, 1) from by decide +kernel) rfl).trans ?_
  exact r_virt (args := []) (rest := [.int s0]) (show decode (zb m_LL_lawz) 2522 = .ok (.invokevirtual 258, 3) from by decide +kernel) rfl rfl rfl h1
theorem b_LL_lawz_2525 {C : CF} {d : Nat} {σ : HP} {s0 : Int32} {s1 : Int32} {l0 : Option Value} {l1 : Option Value} {l2 : Option Value} {l3 : Option Value} {l4 : Option Value} {l5 : Option Value} {l6 : Option Value} {l7 : Option Value}  : runF C d m_LL_lawz (2525, [l0, l1, l2, l3, l4, l5, l6, l7], [.int s0, .int s1], σ) = if s1 = s0 then runF C d m_LL_lawz (2580, [l0, l1, l2, l3, l4, l5, l6, l7], [], σ) else runF C d m_LL_lawz (2528, [l0, l1, l2, l3, l4, l5, l6, l7], [], σ) := by
  exact r_icmp_eq 2580 (show decode (zb m_LL_lawz) 2525 = .ok (.if_icmp .eq (55), 3) from by decide +kernel) rfl
theorem b_LL_lawz_2528 {C : CF} {d : Nat} {σ : HP} {l0 : Option Value} {l1 : Option Value} {l2 : Option Value} {l3 : Option Value} {l4 : Option Value} {l5 : Option Value} {l6 : Option Value} {l7 : Option Value}  : runF C d m_LL_lawz (2528, [l0, l1, l2, l3, l4, l5, l6, l7], [], σ) = some (.inl (some (.int (0 : Int32))), σ) := by
  refine (r_iconst (v := (0 : Int32)) (show decode (zb m_LL_lawz) 2528 = .ok (.iconst (0), 1) from by decide +kernel) (by decide)).trans ?_
  exact r_bret (show decode (zb m_LL_lawz) 2529 = .ok (.ireturn, 1) from by decide +kernel) rfl (by decide)
theorem b_LL_lawz_2530 {C : CF} {d : Nat} {σ : HP} {a1 : Nat} {x4 : Int32} {l2 : Option Value} {l3 : Option Value} {l5 : Option Value} {l6 : Option Value} {l7 : Option Value} (h1 : inR (x4 + (1 : Int32)) (hL σ) = true) (h2 : a1 % 64 = 11) : runF C d m_LL_lawz (2530, [some (.ref 18), some (.ref a1), l2, l3, some (.int x4), l5, l6, l7], [], σ) = bk C d m_LL_lawz 2537 [some (.ref 18), some (.ref a1), l2, l3, some (.int x4), l5, l6, l7] [] (C m_PL_status [.ref a1, .int (gI σ 18 (Int32.toNatClampNeg (x4 + (1 : Int32))))] σ) := by
  refine (r_aloadn 1 (show decode (zb m_LL_lawz) 2530 = .ok (.aload_n 1, 1) from by decide +kernel) rfl).trans ?_
  refine (r_aloadn 0 (show decode (zb m_LL_lawz) 2531 = .ok (.aload_n 0, 1) from by decide +kernel) rfl).trans ?_
  refine (r_iload 4 (show decode (zb m_LL_lawz) 2532 = .ok (.iload 4, 2) from by decide +kernel) rfl).trans ?_
  refine (r_iconst (v := (1 : Int32)) (show decode (zb m_LL_lawz) 2534 = .ok (.iconst (1), 1) from by decide +kernel) (by decide)).trans ?_
  refine (r_iadd (show decode (zb m_LL_lawz) 2535 = .ok (.iadd, 1) from by decide +kernel)).trans ?_
  refine (r_iald18 (show decode (zb m_LL_lawz) 2536 = .ok (.iaload, 1) from by decide +kernel) h1).trans ?_
  exact r_virt (args := [.int (gI σ 18 (Int32.toNatClampNeg (x4 + (1 : Int32))))]) (rest := []) (show decode (zb m_LL_lawz) 2537 = .ok (.invokevirtual 259, 3) from by decide +kernel) rfl rfl rfl h2
theorem b_LL_lawz_2540 {C : CF} {d : Nat} {σ : HP} {s0 : Int32} {a2 : Nat} {x4 : Int32} {l1 : Option Value} {l3 : Option Value} {l5 : Option Value} {l6 : Option Value} {l7 : Option Value} (h1 : inR (x4 + (1 : Int32)) (hL σ) = true) (h2 : a2 % 64 = 12) : runF C d m_LL_lawz (2540, [some (.ref 18), l1, some (.ref a2), l3, some (.int x4), l5, l6, l7], [.int s0], σ) = bk C d m_LL_lawz 2547 [some (.ref 18), l1, some (.ref a2), l3, some (.int x4), l5, l6, l7] [.int s0] (C m_Mo_status [.ref a2, .int (gI σ 18 (Int32.toNatClampNeg (x4 + (1 : Int32))))] σ) := by
  refine (r_aloadn 2 (show decode (zb m_LL_lawz) 2540 = .ok (.aload_n 2, 1) from by decide +kernel) rfl).trans ?_
  refine (r_aloadn 0 (show decode (zb m_LL_lawz) 2541 = .ok (.aload_n 0, 1) from by decide +kernel) rfl).trans ?_
  refine (r_iload 4 (show decode (zb m_LL_lawz) 2542 = .ok (.iload 4, 2) from by decide +kernel) rfl).trans ?_
  refine (r_iconst (v := (1 : Int32)) (show decode (zb m_LL_lawz) 2544 = .ok (.iconst (1), 1) from by decide +kernel) (by decide)).trans ?_
  refine (r_iadd (show decode (zb m_LL_lawz) 2545 = .ok (.iadd, 1) from by decide +kernel)).trans ?_
  refine (r_iald18 (show decode (zb m_LL_lawz) 2546 = .ok (.iaload, 1) from by decide +kernel) h1).trans ?_
  exact r_virt (args := [.int (gI σ 18 (Int32.toNatClampNeg (x4 + (1 : Int32))))]) (rest := [.int s0]) (show decode (zb m_LL_lawz) 2547 = .ok (.invokevirtual 262, 3) from by decide +kernel) rfl rfl rfl h2
theorem b_LL_lawz_2550 {C : CF} {d : Nat} {σ : HP} {s0 : Int32} {s1 : Int32} {l0 : Option Value} {l1 : Option Value} {l2 : Option Value} {l3 : Option Value} {l4 : Option Value} {l5 : Option Value} {l6 : Option Value} {l7 : Option Value}  : runF C d m_LL_lawz (2550, [l0, l1, l2, l3, l4, l5, l6, l7], [.int s0, .int s1], σ) = if s1 = s0 then runF C d m_LL_lawz (2580, [l0, l1, l2, l3, l4, l5, l6, l7], [], σ) else runF C d m_LL_lawz (2553, [l0, l1, l2, l3, l4, l5, l6, l7], [], σ) := by
  exact r_icmp_eq 2580 (show decode (zb m_LL_lawz) 2550 = .ok (.if_icmp .eq (30), 3) from by decide +kernel) rfl
theorem b_LL_lawz_2553 {C : CF} {d : Nat} {σ : HP} {l0 : Option Value} {l1 : Option Value} {l2 : Option Value} {l3 : Option Value} {l4 : Option Value} {l5 : Option Value} {l6 : Option Value} {l7 : Option Value}  : runF C d m_LL_lawz (2553, [l0, l1, l2, l3, l4, l5, l6, l7], [], σ) = some (.inl (some (.int (0 : Int32))), σ) := by
  refine (r_iconst (v := (0 : Int32)) (show decode (zb m_LL_lawz) 2553 = .ok (.iconst (0), 1) from by decide +kernel) (by decide)).trans ?_
  exact r_bret (show decode (zb m_LL_lawz) 2554 = .ok (.ireturn, 1) from by decide +kernel) rfl (by decide)
theorem b_LL_lawz_2555 {C : CF} {d : Nat} {σ : HP} {a1 : Nat} {x4 : Int32} {l2 : Option Value} {l3 : Option Value} {l5 : Option Value} {l6 : Option Value} {l7 : Option Value} (h1 : inR (x4 + (1 : Int32)) (hL σ) = true) (h2 : a1 % 64 = 11) : runF C d m_LL_lawz (2555, [some (.ref 18), some (.ref a1), l2, l3, some (.int x4), l5, l6, l7], [], σ) = bk C d m_LL_lawz 2562 [some (.ref 18), some (.ref a1), l2, l3, some (.int x4), l5, l6, l7] [] (C m_PL_count [.ref a1, .int (gI σ 18 (Int32.toNatClampNeg (x4 + (1 : Int32))))] σ) := by
  refine (r_aloadn 1 (show decode (zb m_LL_lawz) 2555 = .ok (.aload_n 1, 1) from by decide +kernel) rfl).trans ?_
  refine (r_aloadn 0 (show decode (zb m_LL_lawz) 2556 = .ok (.aload_n 0, 1) from by decide +kernel) rfl).trans ?_
  refine (r_iload 4 (show decode (zb m_LL_lawz) 2557 = .ok (.iload 4, 2) from by decide +kernel) rfl).trans ?_
  refine (r_iconst (v := (1 : Int32)) (show decode (zb m_LL_lawz) 2559 = .ok (.iconst (1), 1) from by decide +kernel) (by decide)).trans ?_
  refine (r_iadd (show decode (zb m_LL_lawz) 2560 = .ok (.iadd, 1) from by decide +kernel)).trans ?_
  refine (r_iald18 (show decode (zb m_LL_lawz) 2561 = .ok (.iaload, 1) from by decide +kernel) h1).trans ?_
  exact r_virt (args := [.int (gI σ 18 (Int32.toNatClampNeg (x4 + (1 : Int32))))]) (rest := []) (show decode (zb m_LL_lawz) 2562 = .ok (.invokevirtual 263, 3) from by decide +kernel) rfl rfl rfl h2
theorem b_LL_lawz_2565 {C : CF} {d : Nat} {σ : HP} {s0 : Int32} {a2 : Nat} {x4 : Int32} {l1 : Option Value} {l3 : Option Value} {l5 : Option Value} {l6 : Option Value} {l7 : Option Value} (h1 : inR (x4 + (1 : Int32)) (hL σ) = true) (h2 : a2 % 64 = 12) : runF C d m_LL_lawz (2565, [some (.ref 18), l1, some (.ref a2), l3, some (.int x4), l5, l6, l7], [.int s0], σ) = bk C d m_LL_lawz 2572 [some (.ref 18), l1, some (.ref a2), l3, some (.int x4), l5, l6, l7] [.int s0] (C m_Mo_count [.ref a2, .int (gI σ 18 (Int32.toNatClampNeg (x4 + (1 : Int32))))] σ) := by
  refine (r_aloadn 2 (show decode (zb m_LL_lawz) 2565 = .ok (.aload_n 2, 1) from by decide +kernel) rfl).trans ?_
  refine (r_aloadn 0 (show decode (zb m_LL_lawz) 2566 = .ok (.aload_n 0, 1) from by decide +kernel) rfl).trans ?_
  refine (r_iload 4 (show decode (zb m_LL_lawz) 2567 = .ok (.iload 4, 2) from by decide +kernel) rfl).trans ?_
  refine (r_iconst (v := (1 : Int32)) (show decode (zb m_LL_lawz) 2569 = .ok (.iconst (1), 1) from by decide +kernel) (by decide)).trans ?_
  refine (r_iadd (show decode (zb m_LL_lawz) 2570 = .ok (.iadd, 1) from by decide +kernel)).trans ?_
  refine (r_iald18 (show decode (zb m_LL_lawz) 2571 = .ok (.iaload, 1) from by decide +kernel) h1).trans ?_
  exact r_virt (args := [.int (gI σ 18 (Int32.toNatClampNeg (x4 + (1 : Int32))))]) (rest := [.int s0]) (show decode (zb m_LL_lawz) 2572 = .ok (.invokevirtual 266, 3) from by decide +kernel) rfl rfl rfl h2
theorem b_LL_lawz_2575 {C : CF} {d : Nat} {σ : HP} {s0 : Int32} {s1 : Int32} {l0 : Option Value} {l1 : Option Value} {l2 : Option Value} {l3 : Option Value} {l4 : Option Value} {l5 : Option Value} {l6 : Option Value} {l7 : Option Value}  : runF C d m_LL_lawz (2575, [l0, l1, l2, l3, l4, l5, l6, l7], [.int s0, .int s1], σ) = if s1 = s0 then runF C d m_LL_lawz (2580, [l0, l1, l2, l3, l4, l5, l6, l7], [], σ) else runF C d m_LL_lawz (2578, [l0, l1, l2, l3, l4, l5, l6, l7], [], σ) := by
  exact r_icmp_eq 2580 (show decode (zb m_LL_lawz) 2575 = .ok (.if_icmp .eq (5), 3) from by decide +kernel) rfl
theorem b_LL_lawz_2578 {C : CF} {d : Nat} {σ : HP} {l0 : Option Value} {l1 : Option Value} {l2 : Option Value} {l3 : Option Value} {l4 : Option Value} {l5 : Option Value} {l6 : Option Value} {l7 : Option Value}  : runF C d m_LL_lawz (2578, [l0, l1, l2, l3, l4, l5, l6, l7], [], σ) = some (.inl (some (.int (0 : Int32))), σ) := by
  refine (r_iconst (v := (0 : Int32)) (show decode (zb m_LL_lawz) 2578 = .ok (.iconst (0), 1) from by decide +kernel) (by decide)).trans ?_
  exact r_bret (show decode (zb m_LL_lawz) 2579 = .ok (.ireturn, 1) from by decide +kernel) rfl (by decide)
theorem b_LL_lawz_2580 {C : CF} {d : Nat} {σ : HP} {x4 : Int32} {l0 : Option Value} {l1 : Option Value} {l2 : Option Value} {l3 : Option Value} {l5 : Option Value} {l6 : Option Value} {l7 : Option Value}  : runF C d m_LL_lawz (2580, [l0, l1, l2, l3, some (.int x4), l5, l6, l7], [], σ) = runF C d m_LL_lawz (23, [l0, l1, l2, l3, some (.int (x4 + (10 : Int32))), l5, l6, l7], [], σ) := by
  refine (r_iinc 4 (v := (10 : Int32)) (show decode (zb m_LL_lawz) 2580 = .ok (.iinc 4 (10), 3) from by decide +kernel) rfl rfl (by decide)).trans ?_
  exact r_goto 23 (show decode (zb m_LL_lawz) 2583 = .ok (.goto (-2560), 3) from by decide +kernel) rfl
theorem b_LL_lawz_2586 {C : CF} {d : Nat} {σ : HP} {l0 : Option Value} {l1 : Option Value} {l2 : Option Value} {l3 : Option Value} {l4 : Option Value} {l5 : Option Value} {l6 : Option Value} {l7 : Option Value}  : runF C d m_LL_lawz (2586, [l0, l1, l2, l3, l4, l5, l6, l7], [], σ) = some (.inl (some (.int (1 : Int32))), σ) := by
  refine (r_iconst (v := (1 : Int32)) (show decode (zb m_LL_lawz) 2586 = .ok (.iconst (1), 1) from by decide +kernel) (by decide)).trans ?_
  exact r_bret (show decode (zb m_LL_lawz) 2587 = .ok (.ireturn, 1) from by decide +kernel) rfl (by decide)
