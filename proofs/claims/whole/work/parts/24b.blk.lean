/-! BLOCKS: what the code of each method does from one place of branching, calling or ending to the next (generated) -/
theorem e_Past_init {d : Nat} {σ : HP} {a0 : Nat} : callF (d + 1) m_Past_init [.ref a0] σ = runF (callF d) d m_Past_init (0, [some (.ref a0)], [], σ) := callF_in rfl rfl
theorem b_Past_init_0 {C : CF} {d : Nat} {σ : HP} {a0 : Nat} (h1 : a0 % 64 = 6) : runF C d m_Past_init (0, [some (.ref a0)], [], σ) = some (.inl none, wI (wR (hA (wI (wR (hA σ 37 16) a0 0 (some (37 + 64 * hN σ))) a0 1 (0 : Int32)) 38 3) a0 2 (some (38 + 64 * (hN σ + 1)))) a0 3 (0 : Int32)) := by
  refine (r_aloadn 0 (show decode (zb m_Past_init) 0 = .ok (.aload_n 0, 1) from by decide +kernel) rfl).trans ?_
  refine (r_obj (show decode (zb m_Past_init) 1 = .ok (.invokespecial 3, 3) from by decide +kernel) rfl (by have := h1; omega) rfl).trans ?_
  refine (r_aloadn 0 (show decode (zb m_Past_init) 4 = .ok (.aload_n 0, 1) from by decide +kernel) rfl).trans ?_
  refine (r_bipush (v := (16 : Int32)) (show decode (zb m_Past_init) 5 = .ok (.bipush (16), 2) from by decide +kernel) (by decide)).trans ?_
  refine (r_arrA (k := 37) (e := 4) (show decode (zb m_Past_init) 7 = .ok (.anewarray 9, 3) from by decide +kernel) rfl (by decide) (by decide)).trans ?_
  refine (r_putR (show decode (zb m_Past_init) 10 = .ok (.putfield 11, 3) from by decide +kernel) rfl rfl rfl h1).trans ?_
  refine (r_aloadn 0 (show decode (zb m_Past_init) 13 = .ok (.aload_n 0, 1) from by decide +kernel) rfl).trans ?_
  refine (r_iconst (v := (0 : Int32)) (show decode (zb m_Past_init) 14 = .ok (.iconst (0), 1) from by decide +kernel) (by decide)).trans ?_
  refine (r_putI (show decode (zb m_Past_init) 15 = .ok (.putfield 17, 3) from by decide +kernel) rfl rfl rfl h1).trans ?_
  refine (r_aloadn 0 (show decode (zb m_Past_init) 18 = .ok (.aload_n 0, 1) from by decide +kernel) rfl).trans ?_
  refine (r_iconst (v := (3 : Int32)) (show decode (zb m_Past_init) 19 = .ok (.iconst (3), 1) from by decide +kernel) (by decide)).trans ?_
  refine (r_arrA (k := 38) (e := 5) (show decode (zb m_Past_init) 20 = .ok (.anewarray 21, 3) from by decide +kernel) rfl (by decide) (by decide)).trans ?_
  refine (r_putR (show decode (zb m_Past_init) 23 = .ok (.putfield 23, 3) from by decide +kernel) rfl rfl rfl h1).trans ?_
  refine (r_aloadn 0 (show decode (zb m_Past_init) 26 = .ok (.aload_n 0, 1) from by decide +kernel) rfl).trans ?_
  refine (r_iconst (v := (0 : Int32)) (show decode (zb m_Past_init) 27 = .ok (.iconst (0), 1) from by decide +kernel) (by decide)).trans ?_
  refine (r_putI (show decode (zb m_Past_init) 28 = .ok (.putfield 27, 3) from by decide +kernel) rfl rfl rfl h1).trans ?_
  exact r_vret (show decode (zb m_Past_init) 31 = .ok (.return_, 1) from by decide +kernel) rfl
theorem e_Past_undoWork {d : Nat} {σ : HP} {a0 : Nat} {a1 : Nat} : callF (d + 1) m_Past_undoWork [.ref a0, .ref a1] σ = runF (callF d) d m_Past_undoWork (0, [some (.ref a0), some (.ref a1), none], [], σ) := callF_in rfl rfl
theorem b_Past_undoWork_0 {C : CF} {d : Nat} {σ : HP} {a0 : Nat} {l1 : Option Value} {l2 : Option Value} (h1 : a0 % 64 = 6) : runF C d m_Past_undoWork (0, [some (.ref a0), l1, l2], [], σ) = if (gI σ a0 1) ≤ 0 then runF C d m_Past_undoWork (19, [some (.ref a0), l1, l2], [], σ) else runF C d m_Past_undoWork (7, [some (.ref a0), l1, l2], [], σ) := by
  refine (r_aloadn 0 (show decode (zb m_Past_undoWork) 0 = .ok (.aload_n 0, 1) from by decide +kernel) rfl).trans ?_
  refine (r_getI (show decode (zb m_Past_undoWork) 1 = .ok (.getfield 17, 3) from by decide +kernel) rfl rfl h1).trans ?_
  exact r_if_le 19 (show decode (zb m_Past_undoWork) 4 = .ok (.ifCond .le (15), 3) from by decide +kernel) rfl
theorem b_Past_undoWork_7 {C : CF} {d : Nat} {σ : HP} {a0 : Nat} {l1 : Option Value} {l2 : Option Value} (h1 : a0 % 64 = 6) (h2 : (gR σ a0 0).isSome = true) (h3 : ¬ aty ((dr (gR σ a0 0)) % 64) = 0) : runF C d m_Past_undoWork (7, [some (.ref a0), l1, l2], [], σ) = if (gI σ a0 1) ≤ (Int32.ofNat (alen ((dr (gR σ a0 0)) % 64))) then runF C d m_Past_undoWork (21, [some (.ref a0), l1, l2], [], σ) else runF C d m_Past_undoWork (19, [some (.ref a0), l1, l2], [], σ) := by
  refine (r_aloadn 0 (show decode (zb m_Past_undoWork) 7 = .ok (.aload_n 0, 1) from by decide +kernel) rfl).trans ?_
  refine (r_getI (show decode (zb m_Past_undoWork) 8 = .ok (.getfield 17, 3) from by decide +kernel) rfl rfl h1).trans ?_
  refine (r_aloadn 0 (show decode (zb m_Past_undoWork) 11 = .ok (.aload_n 0, 1) from by decide +kernel) rfl).trans ?_
  refine (r_getR (show decode (zb m_Past_undoWork) 12 = .ok (.getfield 11, 3) from by decide +kernel) rfl rfl h1 h2).trans ?_
  refine (r_alen (show decode (zb m_Past_undoWork) 15 = .ok (.arraylength, 1) from by decide +kernel) h3).trans ?_
  exact r_icmp_le 21 (show decode (zb m_Past_undoWork) 16 = .ok (.if_icmp .le (5), 3) from by decide +kernel) rfl
theorem b_Past_undoWork_19 {C : CF} {d : Nat} {σ : HP} {l0 : Option Value} {l1 : Option Value} {l2 : Option Value}  : runF C d m_Past_undoWork (19, [l0, l1, l2], [], σ) = some (.inl (some (.int (-1 : Int32))), σ) := by
  refine (r_iconst (v := (-1 : Int32)) (show decode (zb m_Past_undoWork) 19 = .ok (.iconst (-1), 1) from by decide +kernel) (by decide)).trans ?_
  exact r_iret (show decode (zb m_Past_undoWork) 20 = .ok (.ireturn, 1) from by decide +kernel) rfl rfl
theorem b_Past_undoWork_21 {C : CF} {d : Nat} {σ : HP} {a0 : Nat} {l1 : Option Value} {l2 : Option Value} (h1 : a0 % 64 = 6) (h2 : (gR (wI σ a0 1 ((gI σ a0 1) - (1 : Int32))) a0 0).isSome = true) (h3 : aty ((dr (gR (wI σ a0 1 ((gI σ a0 1) - (1 : Int32))) a0 0)) % 64) = 4 ∨ aty ((dr (gR (wI σ a0 1 ((gI σ a0 1) - (1 : Int32))) a0 0)) % 64) = 5) (h4 : inR (gI (wI σ a0 1 ((gI σ a0 1) - (1 : Int32))) a0 1) (alen ((dr (gR (wI σ a0 1 ((gI σ a0 1) - (1 : Int32))) a0 0)) % 64)) = true) : runF C d m_Past_undoWork (21, [some (.ref a0), l1, l2], [], σ) = if gR (wI σ a0 1 ((gI σ a0 1) - (1 : Int32))) (dr (gR (wI σ a0 1 ((gI σ a0 1) - (1 : Int32))) a0 0)) (Int32.toNatClampNeg (gI (wI σ a0 1 ((gI σ a0 1) - (1 : Int32))) a0 1)) = none then runF C d m_Past_undoWork (50, [some (.ref a0), l1, some (rv (gR (wI σ a0 1 ((gI σ a0 1) - (1 : Int32))) (dr (gR (wI σ a0 1 ((gI σ a0 1) - (1 : Int32))) a0 0)) (Int32.toNatClampNeg (gI (wI σ a0 1 ((gI σ a0 1) - (1 : Int32))) a0 1))))], [], wI σ a0 1 ((gI σ a0 1) - (1 : Int32))) else runF C d m_Past_undoWork (45, [some (.ref a0), l1, some (rv (gR (wI σ a0 1 ((gI σ a0 1) - (1 : Int32))) (dr (gR (wI σ a0 1 ((gI σ a0 1) - (1 : Int32))) a0 0)) (Int32.toNatClampNeg (gI (wI σ a0 1 ((gI σ a0 1) - (1 : Int32))) a0 1))))], [], wI σ a0 1 ((gI σ a0 1) - (1 : Int32))) := by
  refine (r_aloadn 0 (show decode (zb m_Past_undoWork) 21 = .ok (.aload_n 0, 1) from by decide +kernel) rfl).trans ?_
  refine (r_dupR (show decode (zb m_Past_undoWork) 22 = .ok (.dup, 1) from by decide +kernel)).trans ?_
  refine (r_getI (show decode (zb m_Past_undoWork) 23 = .ok (.getfield 17, 3) from by decide +kernel) rfl rfl h1).trans ?_
  refine (r_iconst (v := (1 : Int32)) (show decode (zb m_Past_undoWork) 26 = .ok (.iconst (1), 1) from by decide +kernel) (by decide)).trans ?_
  refine (r_isub (show decode (zb m_Past_undoWork) 27 = .ok (.isub, 1) from by decide +kernel)).trans ?_
  refine (r_putI (show decode (zb m_Past_undoWork) 28 = .ok (.putfield 17, 3) from by decide +kernel) rfl rfl rfl h1).trans ?_
  refine (r_aloadn 0 (show decode (zb m_Past_undoWork) 31 = .ok (.aload_n 0, 1) from by decide +kernel) rfl).trans ?_
  refine (r_getR (show decode (zb m_Past_undoWork) 32 = .ok (.getfield 11, 3) from by decide +kernel) rfl rfl h1 h2).trans ?_
  refine (r_aloadn 0 (show decode (zb m_Past_undoWork) 35 = .ok (.aload_n 0, 1) from by decide +kernel) rfl).trans ?_
  refine (r_getI (show decode (zb m_Past_undoWork) 36 = .ok (.getfield 17, 3) from by decide +kernel) rfl rfl h1).trans ?_
  refine (r_aald (show decode (zb m_Past_undoWork) 39 = .ok (.aaload, 1) from by decide +kernel) h3 h4).trans ?_
  refine (r_astorenv 2 (show decode (zb m_Past_undoWork) 40 = .ok (.astore_n 2, 1) from by decide +kernel) rfl).trans ?_
  refine (r_aloadnv 2 (show decode (zb m_Past_undoWork) 41 = .ok (.aload_n 2, 1) from by decide +kernel) rfl).trans ?_
  exact r_ifnull 50 (show decode (zb m_Past_undoWork) 42 = .ok (.ifnull (8), 3) from by decide +kernel) rfl
theorem b_Past_undoWork_45 {C : CF} {d : Nat} {σ : HP} {a1 : Nat} {a2 : Nat} {l0 : Option Value} (h1 : a1 % 64 = 1) : runF C d m_Past_undoWork (45, [l0, some (.ref a1), some (.ref a2)], [], σ) = bk C d m_Past_undoWork 47 [l0, some (.ref a1), some (.ref a2)] [] (C m_Days_takeFrom [.ref a1, .ref a2] σ) := by
  refine (r_aloadn 1 (show decode (zb m_Past_undoWork) 45 = .ok (.aload_n 1, 1) from by decide +kernel) rfl).trans ?_
  refine (r_aloadn 2 (show decode (zb m_Past_undoWork) 46 = .ok (.aload_n 2, 1) from by decide +kernel) rfl).trans ?_
  exact r_virt (args := [.ref a2]) (rest := []) (show decode (zb m_Past_undoWork) 47 = .ok (.invokevirtual 31, 3) from by decide +kernel) rfl rfl rfl h1
theorem b_Past_undoWork_50 {C : CF} {d : Nat} {σ : HP} {a0 : Nat} {l1 : Option Value} {l2 : Option Value} (h1 : a0 % 64 = 6) : runF C d m_Past_undoWork (50, [some (.ref a0), l1, l2], [], σ) = some (.inl (some (.int (gI σ a0 1))), σ) := by
  refine (r_aloadn 0 (show decode (zb m_Past_undoWork) 50 = .ok (.aload_n 0, 1) from by decide +kernel) rfl).trans ?_
  refine (r_getI (show decode (zb m_Past_undoWork) 51 = .ok (.getfield 17, 3) from by decide +kernel) rfl rfl h1).trans ?_
  exact r_iret (show decode (zb m_Past_undoWork) 54 = .ok (.ireturn, 1) from by decide +kernel) rfl rfl
theorem e_Past_keepImage {d : Nat} {σ : HP} {a0 : Nat} {a1 : Nat} : callF (d + 1) m_Past_keepImage [.ref a0, .ref a1] σ = runF (callF d) d m_Past_keepImage (0, [some (.ref a0), some (.ref a1), none], [], σ) := callF_in rfl rfl
theorem b_Past_keepImage_0 {C : CF} {d : Nat} {σ : HP} {a0 : Nat} {l1 : Option Value} {l2 : Option Value} (h1 : a0 % 64 = 6) : runF C d m_Past_keepImage (0, [some (.ref a0), l1, l2], [], σ) = if (gI σ a0 3) < 0 then runF C d m_Past_keepImage (19, [some (.ref a0), l1, l2], [], σ) else runF C d m_Past_keepImage (7, [some (.ref a0), l1, l2], [], σ) := by
  refine (r_aloadn 0 (show decode (zb m_Past_keepImage) 0 = .ok (.aload_n 0, 1) from by decide +kernel) rfl).trans ?_
  refine (r_getI (show decode (zb m_Past_keepImage) 1 = .ok (.getfield 27, 3) from by decide +kernel) rfl rfl h1).trans ?_
  exact r_if_lt 19 (show decode (zb m_Past_keepImage) 4 = .ok (.ifCond .lt (15), 3) from by decide +kernel) rfl
theorem b_Past_keepImage_7 {C : CF} {d : Nat} {σ : HP} {a0 : Nat} {l1 : Option Value} {l2 : Option Value} (h1 : a0 % 64 = 6) (h2 : (gR σ a0 2).isSome = true) (h3 : ¬ aty ((dr (gR σ a0 2)) % 64) = 0) : runF C d m_Past_keepImage (7, [some (.ref a0), l1, l2], [], σ) = if (gI σ a0 3) < (Int32.ofNat (alen ((dr (gR σ a0 2)) % 64))) then runF C d m_Past_keepImage (21, [some (.ref a0), l1, l2], [], σ) else runF C d m_Past_keepImage (19, [some (.ref a0), l1, l2], [], σ) := by
  refine (r_aloadn 0 (show decode (zb m_Past_keepImage) 7 = .ok (.aload_n 0, 1) from by decide +kernel) rfl).trans ?_
  refine (r_getI (show decode (zb m_Past_keepImage) 8 = .ok (.getfield 27, 3) from by decide +kernel) rfl rfl h1).trans ?_
  refine (r_aloadn 0 (show decode (zb m_Past_keepImage) 11 = .ok (.aload_n 0, 1) from by decide +kernel) rfl).trans ?_
  refine (r_getR (show decode (zb m_Past_keepImage) 12 = .ok (.getfield 23, 3) from by decide +kernel) rfl rfl h1 h2).trans ?_
  refine (r_alen (show decode (zb m_Past_keepImage) 15 = .ok (.arraylength, 1) from by decide +kernel) h3).trans ?_
  exact r_icmp_lt 21 (show decode (zb m_Past_keepImage) 16 = .ok (.if_icmp .lt (5), 3) from by decide +kernel) rfl
theorem b_Past_keepImage_19 {C : CF} {d : Nat} {σ : HP} {l0 : Option Value} {l1 : Option Value} {l2 : Option Value}  : runF C d m_Past_keepImage (19, [l0, l1, l2], [], σ) = some (.inl (some (.int (-1 : Int32))), σ) := by
  refine (r_iconst (v := (-1 : Int32)) (show decode (zb m_Past_keepImage) 19 = .ok (.iconst (-1), 1) from by decide +kernel) (by decide)).trans ?_
  exact r_iret (show decode (zb m_Past_keepImage) 20 = .ok (.ireturn, 1) from by decide +kernel) rfl rfl
theorem b_Past_keepImage_21 {C : CF} {d : Nat} {σ : HP} {a0 : Nat} {l1 : Option Value} {l2 : Option Value} (h1 : a0 % 64 = 6) : runF C d m_Past_keepImage (21, [some (.ref a0), l1, l2], [], σ) = bkN C d m_Past_keepImage 29 [some (.ref a0), l1, l2] [.ref (3 + 64 * hN σ)] (C m_Image_init [.ref (3 + 64 * hN σ), .int (gI (hA σ 3 3) a0 1)] (hA σ 3 3)) := by
  refine (r_new (ci := 3) (show decode (zb m_Past_keepImage) 21 = .ok (.new 21, 3) from by decide +kernel) rfl).trans ?_
  refine (r_dupR (show decode (zb m_Past_keepImage) 24 = .ok (.dup, 1) from by decide +kernel)).trans ?_
  refine (r_aloadn 0 (show decode (zb m_Past_keepImage) 25 = .ok (.aload_n 0, 1) from by decide +kernel) rfl).trans ?_
  refine (r_getI (show decode (zb m_Past_keepImage) 26 = .ok (.getfield 17, 3) from by decide +kernel) rfl rfl h1).trans ?_
  exact r_spec (args := [.int (gI (hA σ 3 3) a0 1)]) (rest := [.ref (3 + 64 * hN σ)]) (show decode (zb m_Past_keepImage) 29 = .ok (.invokespecial 35, 3) from by decide +kernel) rfl (by decide) rfl rfl (show (3 + 64 * hN σ) % 64 = 3 from by omega)
theorem b_Past_keepImage_32 {C : CF} {d : Nat} {σ : HP} {r0 : Nat} {a1 : Nat} {l0 : Option Value} {l2 : Option Value} (h1 : r0 % 64 = 3) (h2 : (gR σ r0 0).isSome = true) (h3 : (dr (gR σ r0 0)) % 64 = 1) : runF C d m_Past_keepImage (32, [l0, some (.ref a1), l2], [.ref r0], σ) = bk C d m_Past_keepImage 38 [l0, some (.ref a1), some (.ref r0)] [] (C m_Days_takeFrom [.ref (dr (gR σ r0 0)), .ref a1] σ) := by
  refine (r_astoren 2 (show decode (zb m_Past_keepImage) 32 = .ok (.astore_n 2, 1) from by decide +kernel) rfl).trans ?_
  refine (r_aloadn 2 (show decode (zb m_Past_keepImage) 33 = .ok (.aload_n 2, 1) from by decide +kernel) rfl).trans ?_
  refine (r_getR (show decode (zb m_Past_keepImage) 34 = .ok (.getfield 38, 3) from by decide +kernel) rfl rfl h1 h2).trans ?_
  refine (r_aloadn 1 (show decode (zb m_Past_keepImage) 37 = .ok (.aload_n 1, 1) from by decide +kernel) rfl).trans ?_
  exact r_virt (args := [.ref a1]) (rest := []) (show decode (zb m_Past_keepImage) 38 = .ok (.invokevirtual 31, 3) from by decide +kernel) rfl rfl rfl h3
theorem b_Past_keepImage_41 {C : CF} {d : Nat} {σ : HP} {a0 : Nat} {a2 : Nat} {l1 : Option Value} (h1 : a0 % 64 = 6) (h2 : (gR σ a0 0).isSome = true) (h3 : a2 % 64 = 3) (h4 : (gR σ a2 1).isSome = true) : runF C d m_Past_keepImage (41, [some (.ref a0), l1, some (.ref a2)], [], σ) = bkN C d m_Past_keepImage 49 [some (.ref a0), l1, some (.ref a2)] [] (C m_Past_copyKept [.ref (dr (gR σ a0 0)), .ref (dr (gR σ a2 1))] σ) := by
  refine (r_aloadn 0 (show decode (zb m_Past_keepImage) 41 = .ok (.aload_n 0, 1) from by decide +kernel) rfl).trans ?_
  refine (r_getR (show decode (zb m_Past_keepImage) 42 = .ok (.getfield 11, 3) from by decide +kernel) rfl rfl h1 h2).trans ?_
  refine (r_aloadn 2 (show decode (zb m_Past_keepImage) 45 = .ok (.aload_n 2, 1) from by decide +kernel) rfl).trans ?_
  refine (r_getR (show decode (zb m_Past_keepImage) 46 = .ok (.getfield 42, 3) from by decide +kernel) rfl rfl h3 h4).trans ?_
  exact r_stat (args := [.ref (dr (gR σ a0 0)), .ref (dr (gR σ a2 1))]) (rest := []) (show decode (zb m_Past_keepImage) 49 = .ok (.invokestatic 43, 3) from by decide +kernel) rfl (by decide) rfl rfl
theorem b_Past_keepImage_52 {C : CF} {d : Nat} {σ : HP} {a0 : Nat} {a2 : Nat} {l1 : Option Value} (h1 : a0 % 64 = 6) (h2 : (gR σ a0 2).isSome = true) (h3 : stOK (dr (gR σ a0 2)) (some a2)) (h4 : inR (gI σ a0 3) (alen ((dr (gR σ a0 2)) % 64)) = true) : runF C d m_Past_keepImage (52, [some (.ref a0), l1, some (.ref a2)], [], σ) = some (.inl (some (.int (gI (wI (wR σ (dr (gR σ a0 2)) (Int32.toNatClampNeg (gI σ a0 3)) (some a2)) a0 3 ((gI (wR σ (dr (gR σ a0 2)) (Int32.toNatClampNeg (gI σ a0 3)) (some a2)) a0 3) + (1 : Int32))) a0 3))), wI (wR σ (dr (gR σ a0 2)) (Int32.toNatClampNeg (gI σ a0 3)) (some a2)) a0 3 ((gI (wR σ (dr (gR σ a0 2)) (Int32.toNatClampNeg (gI σ a0 3)) (some a2)) a0 3) + (1 : Int32))) := by
  refine (r_aloadn 0 (show decode (zb m_Past_keepImage) 52 = .ok (.aload_n 0, 1) from by decide +kernel) rfl).trans ?_
  refine (r_getR (show decode (zb m_Past_keepImage) 53 = .ok (.getfield 23, 3) from by decide +kernel) rfl rfl h1 h2).trans ?_
  refine (r_aloadn 0 (show decode (zb m_Past_keepImage) 56 = .ok (.aload_n 0, 1) from by decide +kernel) rfl).trans ?_
  refine (r_getI (show decode (zb m_Past_keepImage) 57 = .ok (.getfield 27, 3) from by decide +kernel) rfl rfl h1).trans ?_
  refine (r_aloadn 2 (show decode (zb m_Past_keepImage) 60 = .ok (.aload_n 2, 1) from by decide +kernel) rfl).trans ?_
  refine (r_aastR (show decode (zb m_Past_keepImage) 61 = .ok (.aastore, 1) from by decide +kernel) h3 h4).trans ?_
  refine (r_aloadn 0 (show decode (zb m_Past_keepImage) 62 = .ok (.aload_n 0, 1) from by decide +kernel) rfl).trans ?_
  refine (r_dupR (show decode (zb m_Past_keepImage) 63 = .ok (.dup, 1) from by decide +kernel)).trans ?_
  refine (r_getI (show decode (zb m_Past_keepImage) 64 = .ok (.getfield 27, 3) from by decide +kernel) rfl rfl h1).trans ?_
  refine (r_iconst (v := (1 : Int32)) (show decode (zb m_Past_keepImage) 67 = .ok (.iconst (1), 1) from by decide +kernel) (by decide)).trans ?_
  refine (r_iadd (show decode (zb m_Past_keepImage) 68 = .ok (.iadd, 1) from by decide +kernel)).trans ?_
  refine (r_putI (show decode (zb m_Past_keepImage) 69 = .ok (.putfield 27, 3) from by decide +kernel) rfl rfl rfl h1).trans ?_
  refine (r_aloadn 0 (show decode (zb m_Past_keepImage) 72 = .ok (.aload_n 0, 1) from by decide +kernel) rfl).trans ?_
  refine (r_getI (show decode (zb m_Past_keepImage) 73 = .ok (.getfield 27, 3) from by decide +kernel) rfl rfl h1).trans ?_
  exact r_iret (show decode (zb m_Past_keepImage) 76 = .ok (.ireturn, 1) from by decide +kernel) rfl rfl
theorem e_Past_copyKept {d : Nat} {σ : HP} {a0 : Nat} {a1 : Nat} : callF (d + 1) m_Past_copyKept [.ref a0, .ref a1] σ = runF (callF d) d m_Past_copyKept (0, [some (.ref a0), some (.ref a1), none], [], σ) := callF_in rfl rfl
theorem b_Past_copyKept_0 {C : CF} {d : Nat} {σ : HP} {l0 : Option Value} {l1 : Option Value} {l2 : Option Value}  : runF C d m_Past_copyKept (0, [l0, l1, l2], [], σ) = runF C d m_Past_copyKept (2, [l0, l1, some (.int ((0 : Int32)))], [], σ) := by
  refine (r_iconst (v := (0 : Int32)) (show decode (zb m_Past_copyKept) 0 = .ok (.iconst (0), 1) from by decide +kernel) (by decide)).trans ?_
  exact r_istoren 2 (show decode (zb m_Past_copyKept) 1 = .ok (.istore_n 2, 1) from by decide +kernel) rfl
theorem b_Past_copyKept_2 {C : CF} {d : Nat} {σ : HP} {x2 : Int32} {a0 : Nat} {l1 : Option Value} (h1 : ¬ aty (a0 % 64) = 0) : runF C d m_Past_copyKept (2, [some (.ref a0), l1, some (.int x2)], [], σ) = if (Int32.ofNat (alen (a0 % 64))) ≤ x2 then runF C d m_Past_copyKept (26, [some (.ref a0), l1, some (.int x2)], [], σ) else runF C d m_Past_copyKept (8, [some (.ref a0), l1, some (.int x2)], [], σ) := by
  refine (r_iloadn 2 (show decode (zb m_Past_copyKept) 2 = .ok (.iload_n 2, 1) from by decide +kernel) rfl).trans ?_
  refine (r_aloadn 0 (show decode (zb m_Past_copyKept) 3 = .ok (.aload_n 0, 1) from by decide +kernel) rfl).trans ?_
  refine (r_alen (show decode (zb m_Past_copyKept) 4 = .ok (.arraylength, 1) from by decide +kernel) h1).trans ?_
  exact r_icmp_ge 26 (show decode (zb m_Past_copyKept) 5 = .ok (.if_icmp .ge (21), 3) from by decide +kernel) rfl
theorem b_Past_copyKept_8 {C : CF} {d : Nat} {σ : HP} {x2 : Int32} {a1 : Nat} {l0 : Option Value} (h1 : ¬ aty (a1 % 64) = 0) : runF C d m_Past_copyKept (8, [l0, some (.ref a1), some (.int x2)], [], σ) = if (Int32.ofNat (alen (a1 % 64))) ≤ x2 then runF C d m_Past_copyKept (26, [l0, some (.ref a1), some (.int x2)], [], σ) else runF C d m_Past_copyKept (14, [l0, some (.ref a1), some (.int x2)], [], σ) := by
  refine (r_iloadn 2 (show decode (zb m_Past_copyKept) 8 = .ok (.iload_n 2, 1) from by decide +kernel) rfl).trans ?_
  refine (r_aloadn 1 (show decode (zb m_Past_copyKept) 9 = .ok (.aload_n 1, 1) from by decide +kernel) rfl).trans ?_
  refine (r_alen (show decode (zb m_Past_copyKept) 10 = .ok (.arraylength, 1) from by decide +kernel) h1).trans ?_
  exact r_icmp_ge 26 (show decode (zb m_Past_copyKept) 11 = .ok (.if_icmp .ge (15), 3) from by decide +kernel) rfl
theorem b_Past_copyKept_14 {C : CF} {d : Nat} {σ : HP} {a1 : Nat} {x2 : Int32} {a0 : Nat} (h1 : aty (a0 % 64) = 4 ∨ aty (a0 % 64) = 5) (h2 : inR x2 (alen (a0 % 64)) = true) (h3 : stOK a1 (gR σ a0 (Int32.toNatClampNeg x2))) (h4 : inR x2 (alen (a1 % 64)) = true) : runF C d m_Past_copyKept (14, [some (.ref a0), some (.ref a1), some (.int x2)], [], σ) = runF C d m_Past_copyKept (2, [some (.ref a0), some (.ref a1), some (.int (x2 + (1 : Int32)))], [], wR σ a1 (Int32.toNatClampNeg x2) (gR σ a0 (Int32.toNatClampNeg x2))) := by
  refine (r_aloadn 1 (show decode (zb m_Past_copyKept) 14 = .ok (.aload_n 1, 1) from by decide +kernel) rfl).trans ?_
  refine (r_iloadn 2 (show decode (zb m_Past_copyKept) 15 = .ok (.iload_n 2, 1) from by decide +kernel) rfl).trans ?_
  refine (r_aloadn 0 (show decode (zb m_Past_copyKept) 16 = .ok (.aload_n 0, 1) from by decide +kernel) rfl).trans ?_
  refine (r_iloadn 2 (show decode (zb m_Past_copyKept) 17 = .ok (.iload_n 2, 1) from by decide +kernel) rfl).trans ?_
  refine (r_aald (show decode (zb m_Past_copyKept) 18 = .ok (.aaload, 1) from by decide +kernel) h1 h2).trans ?_
  refine (r_aast (show decode (zb m_Past_copyKept) 19 = .ok (.aastore, 1) from by decide +kernel) h3 h4).trans ?_
  refine (r_iinc 2 (v := (1 : Int32)) (show decode (zb m_Past_copyKept) 20 = .ok (.iinc 2 (1), 3) from by decide +kernel) rfl rfl (by decide)).trans ?_
  exact r_goto 2 (show decode (zb m_Past_copyKept) 23 = .ok (.goto (-21), 3) from by decide +kernel) rfl
theorem b_Past_copyKept_26 {C : CF} {d : Nat} {σ : HP} {l0 : Option Value} {l1 : Option Value} {l2 : Option Value}  : runF C d m_Past_copyKept (26, [l0, l1, l2], [], σ) = some (.inl none, σ) := by
  exact r_vret (show decode (zb m_Past_copyKept) 26 = .ok (.return_, 1) from by decide +kernel) rfl
theorem e_Past_restoreImage {d : Nat} {σ : HP} {a0 : Nat} {a1 : Nat} : callF (d + 1) m_Past_restoreImage [.ref a0, .ref a1] σ = runF (callF d) d m_Past_restoreImage (0, [some (.ref a0), some (.ref a1), none], [], σ) := callF_in rfl rfl
theorem b_Past_restoreImage_0 {C : CF} {d : Nat} {σ : HP} {a0 : Nat} {l1 : Option Value} {l2 : Option Value} (h1 : a0 % 64 = 6) : runF C d m_Past_restoreImage (0, [some (.ref a0), l1, l2], [], σ) = if (gI σ a0 3) ≤ 0 then runF C d m_Past_restoreImage (19, [some (.ref a0), l1, l2], [], σ) else runF C d m_Past_restoreImage (7, [some (.ref a0), l1, l2], [], σ) := by
  refine (r_aloadn 0 (show decode (zb m_Past_restoreImage) 0 = .ok (.aload_n 0, 1) from by decide +kernel) rfl).trans ?_
  refine (r_getI (show decode (zb m_Past_restoreImage) 1 = .ok (.getfield 27, 3) from by decide +kernel) rfl rfl h1).trans ?_
  exact r_if_le 19 (show decode (zb m_Past_restoreImage) 4 = .ok (.ifCond .le (15), 3) from by decide +kernel) rfl
theorem b_Past_restoreImage_7 {C : CF} {d : Nat} {σ : HP} {a0 : Nat} {l1 : Option Value} {l2 : Option Value} (h1 : a0 % 64 = 6) (h2 : (gR σ a0 2).isSome = true) (h3 : ¬ aty ((dr (gR σ a0 2)) % 64) = 0) : runF C d m_Past_restoreImage (7, [some (.ref a0), l1, l2], [], σ) = if (gI σ a0 3) ≤ (Int32.ofNat (alen ((dr (gR σ a0 2)) % 64))) then runF C d m_Past_restoreImage (21, [some (.ref a0), l1, l2], [], σ) else runF C d m_Past_restoreImage (19, [some (.ref a0), l1, l2], [], σ) := by
  refine (r_aloadn 0 (show decode (zb m_Past_restoreImage) 7 = .ok (.aload_n 0, 1) from by decide +kernel) rfl).trans ?_
  refine (r_getI (show decode (zb m_Past_restoreImage) 8 = .ok (.getfield 27, 3) from by decide +kernel) rfl rfl h1).trans ?_
  refine (r_aloadn 0 (show decode (zb m_Past_restoreImage) 11 = .ok (.aload_n 0, 1) from by decide +kernel) rfl).trans ?_
  refine (r_getR (show decode (zb m_Past_restoreImage) 12 = .ok (.getfield 23, 3) from by decide +kernel) rfl rfl h1 h2).trans ?_
  refine (r_alen (show decode (zb m_Past_restoreImage) 15 = .ok (.arraylength, 1) from by decide +kernel) h3).trans ?_
  exact r_icmp_le 21 (show decode (zb m_Past_restoreImage) 16 = .ok (.if_icmp .le (5), 3) from by decide +kernel) rfl
theorem b_Past_restoreImage_19 {C : CF} {d : Nat} {σ : HP} {l0 : Option Value} {l1 : Option Value} {l2 : Option Value}  : runF C d m_Past_restoreImage (19, [l0, l1, l2], [], σ) = some (.inl (some (.int (-1 : Int32))), σ) := by
  refine (r_iconst (v := (-1 : Int32)) (show decode (zb m_Past_restoreImage) 19 = .ok (.iconst (-1), 1) from by decide +kernel) (by decide)).trans ?_
  exact r_iret (show decode (zb m_Past_restoreImage) 20 = .ok (.ireturn, 1) from by decide +kernel) rfl rfl
theorem b_Past_restoreImage_21 {C : CF} {d : Nat} {σ : HP} {a0 : Nat} {l1 : Option Value} {l2 : Option Value} (h1 : a0 % 64 = 6) (h2 : (gR (wI σ a0 3 ((gI σ a0 3) - (1 : Int32))) a0 2).isSome = true) (h3 : aty ((dr (gR (wI σ a0 3 ((gI σ a0 3) - (1 : Int32))) a0 2)) % 64) = 4 ∨ aty ((dr (gR (wI σ a0 3 ((gI σ a0 3) - (1 : Int32))) a0 2)) % 64) = 5) (h4 : inR (gI (wI σ a0 3 ((gI σ a0 3) - (1 : Int32))) a0 3) (alen ((dr (gR (wI σ a0 3 ((gI σ a0 3) - (1 : Int32))) a0 2)) % 64)) = true) : runF C d m_Past_restoreImage (21, [some (.ref a0), l1, l2], [], σ) = if gR (wI σ a0 3 ((gI σ a0 3) - (1 : Int32))) (dr (gR (wI σ a0 3 ((gI σ a0 3) - (1 : Int32))) a0 2)) (Int32.toNatClampNeg (gI (wI σ a0 3 ((gI σ a0 3) - (1 : Int32))) a0 3)) = none then runF C d m_Past_restoreImage (72, [some (.ref a0), l1, some (rv (gR (wI σ a0 3 ((gI σ a0 3) - (1 : Int32))) (dr (gR (wI σ a0 3 ((gI σ a0 3) - (1 : Int32))) a0 2)) (Int32.toNatClampNeg (gI (wI σ a0 3 ((gI σ a0 3) - (1 : Int32))) a0 3))))], [], wI σ a0 3 ((gI σ a0 3) - (1 : Int32))) else runF C d m_Past_restoreImage (45, [some (.ref a0), l1, some (rv (gR (wI σ a0 3 ((gI σ a0 3) - (1 : Int32))) (dr (gR (wI σ a0 3 ((gI σ a0 3) - (1 : Int32))) a0 2)) (Int32.toNatClampNeg (gI (wI σ a0 3 ((gI σ a0 3) - (1 : Int32))) a0 3))))], [], wI σ a0 3 ((gI σ a0 3) - (1 : Int32))) := by
  refine (r_aloadn 0 (show decode (zb m_Past_restoreImage) 21 = .ok (.aload_n 0, 1) from by decide +kernel) rfl).trans ?_
  refine (r_dupR (show decode (zb m_Past_restoreImage) 22 = .ok (.dup, 1) from by decide +kernel)).trans ?_
  refine (r_getI (show decode (zb m_Past_restoreImage) 23 = .ok (.getfield 27, 3) from by decide +kernel) rfl rfl h1).trans ?_
  refine (r_iconst (v := (1 : Int32)) (show decode (zb m_Past_restoreImage) 26 = .ok (.iconst (1), 1) from by decide +kernel) (by decide)).trans ?_
  refine (r_isub (show decode (zb m_Past_restoreImage) 27 = .ok (.isub, 1) from by decide +kernel)).trans ?_
  refine (r_putI (show decode (zb m_Past_restoreImage) 28 = .ok (.putfield 27, 3) from by decide +kernel) rfl rfl rfl h1).trans ?_
  refine (r_aloadn 0 (show decode (zb m_Past_restoreImage) 31 = .ok (.aload_n 0, 1) from by decide +kernel) rfl).trans ?_
  refine (r_getR (show decode (zb m_Past_restoreImage) 32 = .ok (.getfield 23, 3) from by decide +kernel) rfl rfl h1 h2).trans ?_
  refine (r_aloadn 0 (show decode (zb m_Past_restoreImage) 35 = .ok (.aload_n 0, 1) from by decide +kernel) rfl).trans ?_
  refine (r_getI (show decode (zb m_Past_restoreImage) 36 = .ok (.getfield 27, 3) from by decide +kernel) rfl rfl h1).trans ?_
  refine (r_aald (show decode (zb m_Past_restoreImage) 39 = .ok (.aaload, 1) from by decide +kernel) h3 h4).trans ?_
  refine (r_astorenv 2 (show decode (zb m_Past_restoreImage) 40 = .ok (.astore_n 2, 1) from by decide +kernel) rfl).trans ?_
  refine (r_aloadnv 2 (show decode (zb m_Past_restoreImage) 41 = .ok (.aload_n 2, 1) from by decide +kernel) rfl).trans ?_
  exact r_ifnull 72 (show decode (zb m_Past_restoreImage) 42 = .ok (.ifnull (30), 3) from by decide +kernel) rfl
theorem b_Past_restoreImage_45 {C : CF} {d : Nat} {σ : HP} {a1 : Nat} {a2 : Nat} {l0 : Option Value} (h1 : a2 % 64 = 3) (h2 : (gR σ a2 0).isSome = true) (h3 : a1 % 64 = 1) : runF C d m_Past_restoreImage (45, [l0, some (.ref a1), some (.ref a2)], [], σ) = bk C d m_Past_restoreImage 50 [l0, some (.ref a1), some (.ref a2)] [] (C m_Days_takeFrom [.ref a1, .ref (dr (gR σ a2 0))] σ) := by
  refine (r_aloadn 1 (show decode (zb m_Past_restoreImage) 45 = .ok (.aload_n 1, 1) from by decide +kernel) rfl).trans ?_
  refine (r_aloadn 2 (show decode (zb m_Past_restoreImage) 46 = .ok (.aload_n 2, 1) from by decide +kernel) rfl).trans ?_
  refine (r_getR (show decode (zb m_Past_restoreImage) 47 = .ok (.getfield 38, 3) from by decide +kernel) rfl rfl h1 h2).trans ?_
  exact r_virt (args := [.ref (dr (gR σ a2 0))]) (rest := []) (show decode (zb m_Past_restoreImage) 50 = .ok (.invokevirtual 31, 3) from by decide +kernel) rfl rfl rfl h3
theorem b_Past_restoreImage_53 {C : CF} {d : Nat} {σ : HP} {a2 : Nat} {a0 : Nat} {l1 : Option Value} (h1 : a2 % 64 = 3) (h2 : (gR σ a2 1).isSome = true) (h3 : a0 % 64 = 6) (h4 : (gR σ a0 0).isSome = true) : runF C d m_Past_restoreImage (53, [some (.ref a0), l1, some (.ref a2)], [], σ) = bkN C d m_Past_restoreImage 61 [some (.ref a0), l1, some (.ref a2)] [] (C m_Past_copyKept [.ref (dr (gR σ a2 1)), .ref (dr (gR σ a0 0))] σ) := by
  refine (r_aloadn 2 (show decode (zb m_Past_restoreImage) 53 = .ok (.aload_n 2, 1) from by decide +kernel) rfl).trans ?_
  refine (r_getR (show decode (zb m_Past_restoreImage) 54 = .ok (.getfield 42, 3) from by decide +kernel) rfl rfl h1 h2).trans ?_
  refine (r_aloadn 0 (show decode (zb m_Past_restoreImage) 57 = .ok (.aload_n 0, 1) from by decide +kernel) rfl).trans ?_
  refine (r_getR (show decode (zb m_Past_restoreImage) 58 = .ok (.getfield 11, 3) from by decide +kernel) rfl rfl h3 h4).trans ?_
  exact r_stat (args := [.ref (dr (gR σ a2 1)), .ref (dr (gR σ a0 0))]) (rest := []) (show decode (zb m_Past_restoreImage) 61 = .ok (.invokestatic 43, 3) from by decide +kernel) rfl (by decide) rfl rfl
theorem b_Past_restoreImage_64 {C : CF} {d : Nat} {σ : HP} {a0 : Nat} {a2 : Nat} {l1 : Option Value} (h1 : a2 % 64 = 3) (h2 : a0 % 64 = 6) : runF C d m_Past_restoreImage (64, [some (.ref a0), l1, some (.ref a2)], [], σ) = runF C d m_Past_restoreImage (72, [some (.ref a0), l1, some (.ref a2)], [], wI σ a0 1 (gI σ a2 2)) := by
  refine (r_aloadn 0 (show decode (zb m_Past_restoreImage) 64 = .ok (.aload_n 0, 1) from by decide +kernel) rfl).trans ?_
  refine (r_aloadn 2 (show decode (zb m_Past_restoreImage) 65 = .ok (.aload_n 2, 1) from by decide +kernel) rfl).trans ?_
  refine (r_getI (show decode (zb m_Past_restoreImage) 66 = .ok (.getfield 47, 3) from by decide +kernel) rfl rfl h1).trans ?_
  exact r_putI (show decode (zb m_Past_restoreImage) 69 = .ok (.putfield 17, 3) from by decide +kernel) rfl rfl rfl h2
theorem b_Past_restoreImage_72 {C : CF} {d : Nat} {σ : HP} {a0 : Nat} {l1 : Option Value} {l2 : Option Value} (h1 : a0 % 64 = 6) : runF C d m_Past_restoreImage (72, [some (.ref a0), l1, l2], [], σ) = some (.inl (some (.int (gI σ a0 3))), σ) := by
  refine (r_aloadn 0 (show decode (zb m_Past_restoreImage) 72 = .ok (.aload_n 0, 1) from by decide +kernel) rfl).trans ?_
  refine (r_getI (show decode (zb m_Past_restoreImage) 73 = .ok (.getfield 27, 3) from by decide +kernel) rfl rfl h1).trans ?_
  exact r_iret (show decode (zb m_Past_restoreImage) 76 = .ok (.ireturn, 1) from by decide +kernel) rfl rfl
theorem e_Past_forgetAll {d : Nat} {σ : HP} {a0 : Nat} : callF (d + 1) m_Past_forgetAll [.ref a0] σ = runF (callF d) d m_Past_forgetAll (0, [some (.ref a0)], [], σ) := callF_in rfl rfl
theorem b_Past_forgetAll_0 {C : CF} {d : Nat} {σ : HP} {a0 : Nat} (h1 : a0 % 64 = 6) : runF C d m_Past_forgetAll (0, [some (.ref a0)], [], σ) = some (.inl none, wI (wI σ a0 1 (0 : Int32)) a0 3 (0 : Int32)) := by
  refine (r_aloadn 0 (show decode (zb m_Past_forgetAll) 0 = .ok (.aload_n 0, 1) from by decide +kernel) rfl).trans ?_
  refine (r_iconst (v := (0 : Int32)) (show decode (zb m_Past_forgetAll) 1 = .ok (.iconst (0), 1) from by decide +kernel) (by decide)).trans ?_
  refine (r_putI (show decode (zb m_Past_forgetAll) 2 = .ok (.putfield 17, 3) from by decide +kernel) rfl rfl rfl h1).trans ?_
  refine (r_aloadn 0 (show decode (zb m_Past_forgetAll) 5 = .ok (.aload_n 0, 1) from by decide +kernel) rfl).trans ?_
  refine (r_iconst (v := (0 : Int32)) (show decode (zb m_Past_forgetAll) 6 = .ok (.iconst (0), 1) from by decide +kernel) (by decide)).trans ?_
  refine (r_putI (show decode (zb m_Past_forgetAll) 7 = .ok (.putfield 27, 3) from by decide +kernel) rfl rfl rfl h1).trans ?_
  exact r_vret (show decode (zb m_Past_forgetAll) 10 = .ok (.return_, 1) from by decide +kernel) rfl
theorem e_Past_isFull {d : Nat} {σ : HP} {a0 : Nat} : callF (d + 1) m_Past_isFull [.ref a0] σ = runF (callF d) d m_Past_isFull (0, [some (.ref a0)], [], σ) := callF_in rfl rfl
theorem b_Past_isFull_0 {C : CF} {d : Nat} {σ : HP} {a0 : Nat} (h1 : a0 % 64 = 6) : runF C d m_Past_isFull (0, [some (.ref a0)], [], σ) = if (gI σ a0 1) < (16 : Int32) then runF C d m_Past_isFull (13, [some (.ref a0)], [], σ) else runF C d m_Past_isFull (9, [some (.ref a0)], [], σ) := by
  refine (r_aloadn 0 (show decode (zb m_Past_isFull) 0 = .ok (.aload_n 0, 1) from by decide +kernel) rfl).trans ?_
  refine (r_getI (show decode (zb m_Past_isFull) 1 = .ok (.getfield 17, 3) from by decide +kernel) rfl rfl h1).trans ?_
  refine (r_bipush (v := (16 : Int32)) (show decode (zb m_Past_isFull) 4 = .ok (.bipush (16), 2) from by decide +kernel) (by decide)).trans ?_
  exact r_icmp_lt 13 (show decode (zb m_Past_isFull) 6 = .ok (.if_icmp .lt (7), 3) from by decide +kernel) rfl
theorem b_Past_isFull_9 {C : CF} {d : Nat} {σ : HP} {l0 : Option Value}  : runF C d m_Past_isFull (9, [l0], [], σ) = runF C d m_Past_isFull (14, [l0], [.int ((1 : Int32))], σ) := by
  refine (r_iconst (v := (1 : Int32)) (show decode (zb m_Past_isFull) 9 = .ok (.iconst (1), 1) from by decide +kernel) (by decide)).trans ?_
  exact r_goto 14 (show decode (zb m_Past_isFull) 10 = .ok (.goto (4), 3) from by decide +kernel) rfl
theorem b_Past_isFull_13 {C : CF} {d : Nat} {σ : HP} {l0 : Option Value}  : runF C d m_Past_isFull (13, [l0], [], σ) = runF C d m_Past_isFull (14, [l0], [.int ((0 : Int32))], σ) := by
  exact r_iconst (v := (0 : Int32)) (show decode (zb m_Past_isFull) 13 = .ok (.iconst (0), 1) from by decide +kernel) (by decide)
theorem b_Past_isFull_14 {C : CF} {d : Nat} {σ : HP} {s0 : Int32} {l0 : Option Value} (h1 : s0 = 0 ∨ s0 = 1) : runF C d m_Past_isFull (14, [l0], [.int s0], σ) = some (.inl (some (.int s0)), σ) := by
  exact r_bret (show decode (zb m_Past_isFull) 14 = .ok (.ireturn, 1) from by decide +kernel) rfl h1
theorem e_Past_keepWork {d : Nat} {σ : HP} {a0 : Nat} {a1 : Nat} : callF (d + 1) m_Past_keepWork [.ref a0, .ref a1] σ = runF (callF d) d m_Past_keepWork (0, [some (.ref a0), some (.ref a1), none], [], σ) := callF_in rfl rfl
theorem b_Past_keepWork_0 {C : CF} {d : Nat} {σ : HP} {a0 : Nat} {l1 : Option Value} {l2 : Option Value} (h1 : a0 % 64 = 6) : runF C d m_Past_keepWork (0, [some (.ref a0), l1, l2], [], σ) = if (gI σ a0 1) < 0 then runF C d m_Past_keepWork (52, [some (.ref a0), l1, l2], [], σ) else runF C d m_Past_keepWork (7, [some (.ref a0), l1, l2], [], σ) := by
  refine (r_aloadn 0 (show decode (zb m_Past_keepWork) 0 = .ok (.aload_n 0, 1) from by decide +kernel) rfl).trans ?_
  refine (r_getI (show decode (zb m_Past_keepWork) 1 = .ok (.getfield 17, 3) from by decide +kernel) rfl rfl h1).trans ?_
  exact r_if_lt 52 (show decode (zb m_Past_keepWork) 4 = .ok (.ifCond .lt (48), 3) from by decide +kernel) rfl
theorem b_Past_keepWork_7 {C : CF} {d : Nat} {σ : HP} {a0 : Nat} {l1 : Option Value} {l2 : Option Value} (h1 : a0 % 64 = 6) (h2 : (gR σ a0 0).isSome = true) (h3 : ¬ aty ((dr (gR σ a0 0)) % 64) = 0) : runF C d m_Past_keepWork (7, [some (.ref a0), l1, l2], [], σ) = if (Int32.ofNat (alen ((dr (gR σ a0 0)) % 64))) ≤ (gI σ a0 1) then runF C d m_Past_keepWork (52, [some (.ref a0), l1, l2], [], σ) else runF C d m_Past_keepWork (19, [some (.ref a0), l1, l2], [], σ) := by
  refine (r_aloadn 0 (show decode (zb m_Past_keepWork) 7 = .ok (.aload_n 0, 1) from by decide +kernel) rfl).trans ?_
  refine (r_getI (show decode (zb m_Past_keepWork) 8 = .ok (.getfield 17, 3) from by decide +kernel) rfl rfl h1).trans ?_
  refine (r_aloadn 0 (show decode (zb m_Past_keepWork) 11 = .ok (.aload_n 0, 1) from by decide +kernel) rfl).trans ?_
  refine (r_getR (show decode (zb m_Past_keepWork) 12 = .ok (.getfield 11, 3) from by decide +kernel) rfl rfl h1 h2).trans ?_
  refine (r_alen (show decode (zb m_Past_keepWork) 15 = .ok (.arraylength, 1) from by decide +kernel) h3).trans ?_
  exact r_icmp_ge 52 (show decode (zb m_Past_keepWork) 16 = .ok (.if_icmp .ge (36), 3) from by decide +kernel) rfl
theorem b_Past_keepWork_19 {C : CF} {d : Nat} {σ : HP} {l0 : Option Value} {l1 : Option Value} {l2 : Option Value}  : runF C d m_Past_keepWork (19, [l0, l1, l2], [], σ) = bkN C d m_Past_keepWork 23 [l0, l1, l2] [.ref (1 + 64 * hN σ)] (C m_Days_init [.ref (1 + 64 * hN σ)] (hA σ 1 8)) := by
  refine (r_new (ci := 1) (show decode (zb m_Past_keepWork) 19 = .ok (.new 9, 3) from by decide +kernel) rfl).trans ?_
  refine (r_dupR (show decode (zb m_Past_keepWork) 22 = .ok (.dup, 1) from by decide +kernel)).trans ?_
  exact r_spec (args := []) (rest := [.ref (1 + 64 * hN σ)]) (show decode (zb m_Past_keepWork) 23 = .ok (.invokespecial 30, 3) from by decide +kernel) rfl (by decide) rfl rfl (show (1 + 64 * hN σ) % 64 = 1 from by omega)
theorem b_Past_keepWork_26 {C : CF} {d : Nat} {σ : HP} {r0 : Nat} {a1 : Nat} {l0 : Option Value} {l2 : Option Value} (h1 : r0 % 64 = 1) : runF C d m_Past_keepWork (26, [l0, some (.ref a1), l2], [.ref r0], σ) = bk C d m_Past_keepWork 29 [l0, some (.ref a1), some (.ref r0)] [] (C m_Days_takeFrom [.ref r0, .ref a1] σ) := by
  refine (r_astoren 2 (show decode (zb m_Past_keepWork) 26 = .ok (.astore_n 2, 1) from by decide +kernel) rfl).trans ?_
  refine (r_aloadn 2 (show decode (zb m_Past_keepWork) 27 = .ok (.aload_n 2, 1) from by decide +kernel) rfl).trans ?_
  refine (r_aloadn 1 (show decode (zb m_Past_keepWork) 28 = .ok (.aload_n 1, 1) from by decide +kernel) rfl).trans ?_
  exact r_virt (args := [.ref a1]) (rest := []) (show decode (zb m_Past_keepWork) 29 = .ok (.invokevirtual 31, 3) from by decide +kernel) rfl rfl rfl h1
theorem b_Past_keepWork_32 {C : CF} {d : Nat} {σ : HP} {a0 : Nat} {a2 : Nat} {l1 : Option Value} (h1 : a0 % 64 = 6) (h2 : (gR σ a0 0).isSome = true) (h3 : stOK (dr (gR σ a0 0)) (some a2)) (h4 : inR (gI σ a0 1) (alen ((dr (gR σ a0 0)) % 64)) = true) : runF C d m_Past_keepWork (32, [some (.ref a0), l1, some (.ref a2)], [], σ) = runF C d m_Past_keepWork (52, [some (.ref a0), l1, some (.ref a2)], [], wI (wR σ (dr (gR σ a0 0)) (Int32.toNatClampNeg (gI σ a0 1)) (some a2)) a0 1 ((gI (wR σ (dr (gR σ a0 0)) (Int32.toNatClampNeg (gI σ a0 1)) (some a2)) a0 1) + (1 : Int32))) := by
  refine (r_aloadn 0 (show decode (zb m_Past_keepWork) 32 = .ok (.aload_n 0, 1) from by decide +kernel) rfl).trans ?_
  refine (r_getR (show decode (zb m_Past_keepWork) 33 = .ok (.getfield 11, 3) from by decide +kernel) rfl rfl h1 h2).trans ?_
  refine (r_aloadn 0 (show decode (zb m_Past_keepWork) 36 = .ok (.aload_n 0, 1) from by decide +kernel) rfl).trans ?_
  refine (r_getI (show decode (zb m_Past_keepWork) 37 = .ok (.getfield 17, 3) from by decide +kernel) rfl rfl h1).trans ?_
  refine (r_aloadn 2 (show decode (zb m_Past_keepWork) 40 = .ok (.aload_n 2, 1) from by decide +kernel) rfl).trans ?_
  refine (r_aastR (show decode (zb m_Past_keepWork) 41 = .ok (.aastore, 1) from by decide +kernel) h3 h4).trans ?_
  refine (r_aloadn 0 (show decode (zb m_Past_keepWork) 42 = .ok (.aload_n 0, 1) from by decide +kernel) rfl).trans ?_
  refine (r_dupR (show decode (zb m_Past_keepWork) 43 = .ok (.dup, 1) from by decide +kernel)).trans ?_
  refine (r_getI (show decode (zb m_Past_keepWork) 44 = .ok (.getfield 17, 3) from by decide +kernel) rfl rfl h1).trans ?_
  refine (r_iconst (v := (1 : Int32)) (show decode (zb m_Past_keepWork) 47 = .ok (.iconst (1), 1) from by decide +kernel) (by decide)).trans ?_
  refine (r_iadd (show decode (zb m_Past_keepWork) 48 = .ok (.iadd, 1) from by decide +kernel)).trans ?_
  exact r_putI (show decode (zb m_Past_keepWork) 49 = .ok (.putfield 17, 3) from by decide +kernel) rfl rfl rfl h1
theorem b_Past_keepWork_52 {C : CF} {d : Nat} {σ : HP} {l0 : Option Value} {l1 : Option Value} {l2 : Option Value}  : runF C d m_Past_keepWork (52, [l0, l1, l2], [], σ) = some (.inl none, σ) := by
  exact r_vret (show decode (zb m_Past_keepWork) 52 = .ok (.return_, 1) from by decide +kernel) rfl
theorem e_Reader_init {d : Nat} {σ : HP} {a0 : Nat} : callF (d + 1) m_Reader_init [.ref a0] σ = runF (callF d) d m_Reader_init (0, [some (.ref a0)], [], σ) := callF_in rfl rfl
theorem b_Reader_init_0 {C : CF} {d : Nat} {σ : HP} {a0 : Nat} (h1 : a0 % 64 = 7) : runF C d m_Reader_init (0, [some (.ref a0)], [], σ) = some (.inl none, wI (wI (wI (wI (wI (wR (hA σ 36 600) a0 0 (some (36 + 64 * hN σ))) a0 1 (0 : Int32)) a0 2 (0 : Int32)) a0 3 (0 : Int32)) a0 4 (-1 : Int32)) a0 5 (0 : Int32)) := by
  refine (r_aloadn 0 (show decode (zb m_Reader_init) 0 = .ok (.aload_n 0, 1) from by decide +kernel) rfl).trans ?_
  refine (r_obj (show decode (zb m_Reader_init) 1 = .ok (.invokespecial 3, 3) from by decide +kernel) rfl (by have := h1; omega) rfl).trans ?_
  refine (r_aloadn 0 (show decode (zb m_Reader_init) 4 = .ok (.aload_n 0, 1) from by decide +kernel) rfl).trans ?_
  refine (r_sipush (v := (600 : Int32)) (show decode (zb m_Reader_init) 5 = .ok (.sipush (600), 3) from by decide +kernel) (by decide)).trans ?_
  refine (r_arrB (k := 36) (show decode (zb m_Reader_init) 8 = .ok (.newarray .byte, 2) from by decide +kernel) (by decide) (by decide)).trans ?_
  refine (r_putR (show decode (zb m_Reader_init) 10 = .ok (.putfield 9, 3) from by decide +kernel) rfl rfl rfl h1).trans ?_
  refine (r_aloadn 0 (show decode (zb m_Reader_init) 13 = .ok (.aload_n 0, 1) from by decide +kernel) rfl).trans ?_
  refine (r_iconst (v := (0 : Int32)) (show decode (zb m_Reader_init) 14 = .ok (.iconst (0), 1) from by decide +kernel) (by decide)).trans ?_
  refine (r_putI (show decode (zb m_Reader_init) 15 = .ok (.putfield 15, 3) from by decide +kernel) rfl rfl rfl h1).trans ?_
  refine (r_aloadn 0 (show decode (zb m_Reader_init) 18 = .ok (.aload_n 0, 1) from by decide +kernel) rfl).trans ?_
  refine (r_iconst (v := (0 : Int32)) (show decode (zb m_Reader_init) 19 = .ok (.iconst (0), 1) from by decide +kernel) (by decide)).trans ?_
  refine (r_putI (show decode (zb m_Reader_init) 20 = .ok (.putfield 19, 3) from by decide +kernel) rfl rfl rfl h1).trans ?_
  refine (r_aloadn 0 (show decode (zb m_Reader_init) 23 = .ok (.aload_n 0, 1) from by decide +kernel) rfl).trans ?_
  refine (r_iconst (v := (0 : Int32)) (show decode (zb m_Reader_init) 24 = .ok (.iconst (0), 1) from by decide +kernel) (by decide)).trans ?_
  refine (r_putI (show decode (zb m_Reader_init) 25 = .ok (.putfield 22, 3) from by decide +kernel) rfl rfl rfl h1).trans ?_
  refine (r_aloadn 0 (show decode (zb m_Reader_init) 28 = .ok (.aload_n 0, 1) from by decide +kernel) rfl).trans ?_
  refine (r_iconst (v := (-1 : Int32)) (show decode (zb m_Reader_init) 29 = .ok (.iconst (-1), 1) from by decide +kernel) (by decide)).trans ?_
  refine (r_putI (show decode (zb m_Reader_init) 30 = .ok (.putfield 25, 3) from by decide +kernel) rfl rfl rfl h1).trans ?_
  refine (r_aloadn 0 (show decode (zb m_Reader_init) 33 = .ok (.aload_n 0, 1) from by decide +kernel) rfl).trans ?_
  refine (r_iconst (v := (0 : Int32)) (show decode (zb m_Reader_init) 34 = .ok (.iconst (0), 1) from by decide +kernel) (by decide)).trans ?_
  refine (r_putI (show decode (zb m_Reader_init) 35 = .ok (.putfield 28, 3) from by decide +kernel) rfl rfl rfl h1).trans ?_
  exact r_vret (show decode (zb m_Reader_init) 38 = .ok (.return_, 1) from by decide +kernel) rfl
theorem e_Reader_open {d : Nat} {σ : HP} {a0 : Nat} {x1 : Int32} : callF (d + 1) m_Reader_open [.ref a0, .int x1] σ = runF (callF d) d m_Reader_open (0, [some (.ref a0), some (.int x1)], [], σ) := callF_in rfl rfl
theorem b_Reader_open_0 {C : CF} {d : Nat} {σ : HP} {a0 : Nat} {x1 : Int32} (h1 : a0 % 64 = 7) (h2 : (gR σ a0 0).isSome = true) (h3 : ¬ aty ((dr (gR σ a0 0)) % 64) = 0) : runF C d m_Reader_open (0, [some (.ref a0), some (.int x1)], [], σ) = some (.inl none, wI (wI (wI (wI (wI σ a0 1 (p_min x1 (Int32.ofNat (alen ((dr (gR σ a0 0)) % 64))))) a0 2 (0 : Int32)) a0 3 (0 : Int32)) a0 4 (-1 : Int32)) a0 5 (0 : Int32)) := by
  refine (r_aloadn 0 (show decode (zb m_Reader_open) 0 = .ok (.aload_n 0, 1) from by decide +kernel) rfl).trans ?_
  refine (r_iloadn 1 (show decode (zb m_Reader_open) 1 = .ok (.iload_n 1, 1) from by decide +kernel) rfl).trans ?_
  refine (r_aloadn 0 (show decode (zb m_Reader_open) 2 = .ok (.aload_n 0, 1) from by decide +kernel) rfl).trans ?_
  refine (r_getR (show decode (zb m_Reader_open) 3 = .ok (.getfield 9, 3) from by decide +kernel) rfl rfl h1 h2).trans ?_
  refine (r_alen (show decode (zb m_Reader_open) 6 = .ok (.arraylength, 1) from by decide +kernel) h3).trans ?_
  refine (r_min (show decode (zb m_Reader_open) 7 = .ok (.invokestatic 31, 3) from by decide +kernel) rfl rfl).trans ?_
  refine (r_putI (show decode (zb m_Reader_open) 10 = .ok (.putfield 15, 3) from by decide +kernel) rfl rfl rfl h1).trans ?_
  refine (r_aloadn 0 (show decode (zb m_Reader_open) 13 = .ok (.aload_n 0, 1) from by decide +kernel) rfl).trans ?_
  refine (r_iconst (v := (0 : Int32)) (show decode (zb m_Reader_open) 14 = .ok (.iconst (0), 1) from by decide +kernel) (by decide)).trans ?_
  refine (r_putI (show decode (zb m_Reader_open) 15 = .ok (.putfield 19, 3) from by decide +kernel) rfl rfl rfl h1).trans ?_
  refine (r_aloadn 0 (show decode (zb m_Reader_open) 18 = .ok (.aload_n 0, 1) from by decide +kernel) rfl).trans ?_
  refine (r_iconst (v := (0 : Int32)) (show decode (zb m_Reader_open) 19 = .ok (.iconst (0), 1) from by decide +kernel) (by decide)).trans ?_
  refine (r_putI (show decode (zb m_Reader_open) 20 = .ok (.putfield 22, 3) from by decide +kernel) rfl rfl rfl h1).trans ?_
  refine (r_aloadn 0 (show decode (zb m_Reader_open) 23 = .ok (.aload_n 0, 1) from by decide +kernel) rfl).trans ?_
  refine (r_iconst (v := (-1 : Int32)) (show decode (zb m_Reader_open) 24 = .ok (.iconst (-1), 1) from by decide +kernel) (by decide)).trans ?_
  refine (r_putI (show decode (zb m_Reader_open) 25 = .ok (.putfield 25, 3) from by decide +kernel) rfl rfl rfl h1).trans ?_
  refine (r_aloadn 0 (show decode (zb m_Reader_open) 28 = .ok (.aload_n 0, 1) from by decide +kernel) rfl).trans ?_
  refine (r_iconst (v := (0 : Int32)) (show decode (zb m_Reader_open) 29 = .ok (.iconst (0), 1) from by decide +kernel) (by decide)).trans ?_
  refine (r_putI (show decode (zb m_Reader_open) 30 = .ok (.putfield 28, 3) from by decide +kernel) rfl rfl rfl h1).trans ?_
  exact r_vret (show decode (zb m_Reader_open) 33 = .ok (.return_, 1) from by decide +kernel) rfl
theorem e_Reader_failed {d : Nat} {σ : HP} {a0 : Nat} : callF (d + 1) m_Reader_failed [.ref a0] σ = runF (callF d) d m_Reader_failed (0, [some (.ref a0)], [], σ) := callF_in rfl rfl
theorem b_Reader_failed_0 {C : CF} {d : Nat} {σ : HP} {a0 : Nat} (h1 : a0 % 64 = 7) : runF C d m_Reader_failed (0, [some (.ref a0)], [], σ) = if (gI σ a0 3) = 0 then runF C d m_Reader_failed (11, [some (.ref a0)], [], σ) else runF C d m_Reader_failed (7, [some (.ref a0)], [], σ) := by
  refine (r_aloadn 0 (show decode (zb m_Reader_failed) 0 = .ok (.aload_n 0, 1) from by decide +kernel) rfl).trans ?_
  refine (r_getI (show decode (zb m_Reader_failed) 1 = .ok (.getfield 22, 3) from by decide +kernel) rfl rfl h1).trans ?_
  exact r_if_eq 11 (show decode (zb m_Reader_failed) 4 = .ok (.ifCond .eq (7), 3) from by decide +kernel) rfl
theorem b_Reader_failed_7 {C : CF} {d : Nat} {σ : HP} {l0 : Option Value}  : runF C d m_Reader_failed (7, [l0], [], σ) = runF C d m_Reader_failed (12, [l0], [.int ((1 : Int32))], σ) := by
  refine (r_iconst (v := (1 : Int32)) (show decode (zb m_Reader_failed) 7 = .ok (.iconst (1), 1) from by decide +kernel) (by decide)).trans ?_
  exact r_goto 12 (show decode (zb m_Reader_failed) 8 = .ok (.goto (4), 3) from by decide +kernel) rfl
theorem b_Reader_failed_11 {C : CF} {d : Nat} {σ : HP} {l0 : Option Value}  : runF C d m_Reader_failed (11, [l0], [], σ) = runF C d m_Reader_failed (12, [l0], [.int ((0 : Int32))], σ) := by
  exact r_iconst (v := (0 : Int32)) (show decode (zb m_Reader_failed) 11 = .ok (.iconst (0), 1) from by decide +kernel) (by decide)
theorem b_Reader_failed_12 {C : CF} {d : Nat} {σ : HP} {s0 : Int32} {l0 : Option Value} (h1 : s0 = 0 ∨ s0 = 1) : runF C d m_Reader_failed (12, [l0], [.int s0], σ) = some (.inl (some (.int s0)), σ) := by
  exact r_bret (show decode (zb m_Reader_failed) 12 = .ok (.ireturn, 1) from by decide +kernel) rfl h1
theorem e_Reader_peek {d : Nat} {σ : HP} {a0 : Nat} : callF (d + 1) m_Reader_peek [.ref a0] σ = runF (callF d) d m_Reader_peek (0, [some (.ref a0)], [], σ) := callF_in rfl rfl
theorem b_Reader_peek_0 {C : CF} {d : Nat} {σ : HP} {a0 : Nat} (h1 : a0 % 64 = 7) : runF C d m_Reader_peek (0, [some (.ref a0)], [], σ) = if (gI σ a0 1) ≤ (gI σ a0 2) then runF C d m_Reader_peek (37, [some (.ref a0)], [], σ) else runF C d m_Reader_peek (11, [some (.ref a0)], [], σ) := by
  refine (r_aloadn 0 (show decode (zb m_Reader_peek) 0 = .ok (.aload_n 0, 1) from by decide +kernel) rfl).trans ?_
  refine (r_getI (show decode (zb m_Reader_peek) 1 = .ok (.getfield 19, 3) from by decide +kernel) rfl rfl h1).trans ?_
  refine (r_aloadn 0 (show decode (zb m_Reader_peek) 4 = .ok (.aload_n 0, 1) from by decide +kernel) rfl).trans ?_
  refine (r_getI (show decode (zb m_Reader_peek) 5 = .ok (.getfield 15, 3) from by decide +kernel) rfl rfl h1).trans ?_
  exact r_icmp_ge 37 (show decode (zb m_Reader_peek) 8 = .ok (.if_icmp .ge (29), 3) from by decide +kernel) rfl
theorem b_Reader_peek_11 {C : CF} {d : Nat} {σ : HP} {a0 : Nat} (h1 : a0 % 64 = 7) : runF C d m_Reader_peek (11, [some (.ref a0)], [], σ) = bk C d m_Reader_peek 16 [some (.ref a0)] [] (C m_Reader_byteAt [.ref a0, .int (gI σ a0 2)] σ) := by
  refine (r_aloadn 0 (show decode (zb m_Reader_peek) 11 = .ok (.aload_n 0, 1) from by decide +kernel) rfl).trans ?_
  refine (r_aloadn 0 (show decode (zb m_Reader_peek) 12 = .ok (.aload_n 0, 1) from by decide +kernel) rfl).trans ?_
  refine (r_getI (show decode (zb m_Reader_peek) 13 = .ok (.getfield 19, 3) from by decide +kernel) rfl rfl h1).trans ?_
  exact r_virt (args := [.int (gI σ a0 2)]) (rest := []) (show decode (zb m_Reader_peek) 16 = .ok (.invokevirtual 37, 3) from by decide +kernel) rfl rfl rfl h1
theorem b_Reader_peek_19 {C : CF} {d : Nat} {σ : HP} {s0 : Int32} {l0 : Option Value}  : runF C d m_Reader_peek (19, [l0], [.int s0], σ) = if ¬ s0 = (32 : Int32) then runF C d m_Reader_peek (37, [l0], [], σ) else runF C d m_Reader_peek (24, [l0], [], σ) := by
  refine (r_bipush (v := (32 : Int32)) (show decode (zb m_Reader_peek) 19 = .ok (.bipush (32), 2) from by decide +kernel) (by decide)).trans ?_
  exact r_icmp_ne 37 (show decode (zb m_Reader_peek) 21 = .ok (.if_icmp .ne (16), 3) from by decide +kernel) rfl
theorem b_Reader_peek_24 {C : CF} {d : Nat} {σ : HP} {a0 : Nat} (h1 : a0 % 64 = 7) : runF C d m_Reader_peek (24, [some (.ref a0)], [], σ) = runF C d m_Reader_peek (0, [some (.ref a0)], [], wI σ a0 2 ((gI σ a0 2) + (1 : Int32))) := by
  refine (r_aloadn 0 (show decode (zb m_Reader_peek) 24 = .ok (.aload_n 0, 1) from by decide +kernel) rfl).trans ?_
  refine (r_dupR (show decode (zb m_Reader_peek) 25 = .ok (.dup, 1) from by decide +kernel)).trans ?_
  refine (r_getI (show decode (zb m_Reader_peek) 26 = .ok (.getfield 19, 3) from by decide +kernel) rfl rfl h1).trans ?_
  refine (r_iconst (v := (1 : Int32)) (show decode (zb m_Reader_peek) 29 = .ok (.iconst (1), 1) from by decide +kernel) (by decide)).trans ?_
  refine (r_iadd (show decode (zb m_Reader_peek) 30 = .ok (.iadd, 1) from by decide +kernel)).trans ?_
  refine (r_putI (show decode (zb m_Reader_peek) 31 = .ok (.putfield 19, 3) from by decide +kernel) rfl rfl rfl h1).trans ?_
  exact r_goto 0 (show decode (zb m_Reader_peek) 34 = .ok (.goto (-34), 3) from by decide +kernel) rfl
theorem b_Reader_peek_37 {C : CF} {d : Nat} {σ : HP} {a0 : Nat} (h1 : a0 % 64 = 7) : runF C d m_Reader_peek (37, [some (.ref a0)], [], σ) = bk C d m_Reader_peek 42 [some (.ref a0)] [] (C m_Reader_byteAt [.ref a0, .int (gI σ a0 2)] σ) := by
  refine (r_aloadn 0 (show decode (zb m_Reader_peek) 37 = .ok (.aload_n 0, 1) from by decide +kernel) rfl).trans ?_
  refine (r_aloadn 0 (show decode (zb m_Reader_peek) 38 = .ok (.aload_n 0, 1) from by decide +kernel) rfl).trans ?_
  refine (r_getI (show decode (zb m_Reader_peek) 39 = .ok (.getfield 19, 3) from by decide +kernel) rfl rfl h1).trans ?_
  exact r_virt (args := [.int (gI σ a0 2)]) (rest := []) (show decode (zb m_Reader_peek) 42 = .ok (.invokevirtual 37, 3) from by decide +kernel) rfl rfl rfl h1
theorem b_Reader_peek_45 {C : CF} {d : Nat} {σ : HP} {s0 : Int32} {l0 : Option Value}  : runF C d m_Reader_peek (45, [l0], [.int s0], σ) = some (.inl (some (.int s0)), σ) := by
  exact r_iret (show decode (zb m_Reader_peek) 45 = .ok (.ireturn, 1) from by decide +kernel) rfl rfl
theorem e_Reader_byteAt {d : Nat} {σ : HP} {a0 : Nat} {x1 : Int32} : callF (d + 1) m_Reader_byteAt [.ref a0, .int x1] σ = runF (callF d) d m_Reader_byteAt (0, [some (.ref a0), some (.int x1)], [], σ) := callF_in rfl rfl
theorem b_Reader_byteAt_0 {C : CF} {d : Nat} {σ : HP} {x1 : Int32} {l0 : Option Value}  : runF C d m_Reader_byteAt (0, [l0, some (.int x1)], [], σ) = if x1 < 0 then runF C d m_Reader_byteAt (34, [l0, some (.int x1)], [], σ) else runF C d m_Reader_byteAt (4, [l0, some (.int x1)], [], σ) := by
  refine (r_iloadn 1 (show decode (zb m_Reader_byteAt) 0 = .ok (.iload_n 1, 1) from by decide +kernel) rfl).trans ?_
  exact r_if_lt 34 (show decode (zb m_Reader_byteAt) 1 = .ok (.ifCond .lt (33), 3) from by decide +kernel) rfl
theorem b_Reader_byteAt_4 {C : CF} {d : Nat} {σ : HP} {x1 : Int32} {a0 : Nat} (h1 : a0 % 64 = 7) : runF C d m_Reader_byteAt (4, [some (.ref a0), some (.int x1)], [], σ) = if (gI σ a0 1) ≤ x1 then runF C d m_Reader_byteAt (34, [some (.ref a0), some (.int x1)], [], σ) else runF C d m_Reader_byteAt (12, [some (.ref a0), some (.int x1)], [], σ) := by
  refine (r_iloadn 1 (show decode (zb m_Reader_byteAt) 4 = .ok (.iload_n 1, 1) from by decide +kernel) rfl).trans ?_
  refine (r_aloadn 0 (show decode (zb m_Reader_byteAt) 5 = .ok (.aload_n 0, 1) from by decide +kernel) rfl).trans ?_
  refine (r_getI (show decode (zb m_Reader_byteAt) 6 = .ok (.getfield 15, 3) from by decide +kernel) rfl rfl h1).trans ?_
  exact r_icmp_ge 34 (show decode (zb m_Reader_byteAt) 9 = .ok (.if_icmp .ge (25), 3) from by decide +kernel) rfl
theorem b_Reader_byteAt_12 {C : CF} {d : Nat} {σ : HP} {x1 : Int32} {a0 : Nat} (h1 : a0 % 64 = 7) (h2 : (gR σ a0 0).isSome = true) (h3 : ¬ aty ((dr (gR σ a0 0)) % 64) = 0) : runF C d m_Reader_byteAt (12, [some (.ref a0), some (.int x1)], [], σ) = if (Int32.ofNat (alen ((dr (gR σ a0 0)) % 64))) ≤ x1 then runF C d m_Reader_byteAt (34, [some (.ref a0), some (.int x1)], [], σ) else runF C d m_Reader_byteAt (21, [some (.ref a0), some (.int x1)], [], σ) := by
  refine (r_iloadn 1 (show decode (zb m_Reader_byteAt) 12 = .ok (.iload_n 1, 1) from by decide +kernel) rfl).trans ?_
  refine (r_aloadn 0 (show decode (zb m_Reader_byteAt) 13 = .ok (.aload_n 0, 1) from by decide +kernel) rfl).trans ?_
  refine (r_getR (show decode (zb m_Reader_byteAt) 14 = .ok (.getfield 9, 3) from by decide +kernel) rfl rfl h1 h2).trans ?_
  refine (r_alen (show decode (zb m_Reader_byteAt) 17 = .ok (.arraylength, 1) from by decide +kernel) h3).trans ?_
  exact r_icmp_ge 34 (show decode (zb m_Reader_byteAt) 18 = .ok (.if_icmp .ge (16), 3) from by decide +kernel) rfl
theorem b_Reader_byteAt_21 {C : CF} {d : Nat} {σ : HP} {a0 : Nat} {x1 : Int32} (h1 : a0 % 64 = 7) (h2 : (gR σ a0 0).isSome = true) (h3 : aty ((dr (gR σ a0 0)) % 64) = 3) (h4 : inR x1 (alen ((dr (gR σ a0 0)) % 64)) = true) : runF C d m_Reader_byteAt (21, [some (.ref a0), some (.int x1)], [], σ) = runF C d m_Reader_byteAt (35, [some (.ref a0), some (.int x1)], [.int ((gI σ (dr (gR σ a0 0)) (Int32.toNatClampNeg x1)) &&& (255 : Int32))], σ) := by
  refine (r_aloadn 0 (show decode (zb m_Reader_byteAt) 21 = .ok (.aload_n 0, 1) from by decide +kernel) rfl).trans ?_
  refine (r_getR (show decode (zb m_Reader_byteAt) 22 = .ok (.getfield 9, 3) from by decide +kernel) rfl rfl h1 h2).trans ?_
  refine (r_iloadn 1 (show decode (zb m_Reader_byteAt) 25 = .ok (.iload_n 1, 1) from by decide +kernel) rfl).trans ?_
  refine (r_bald (show decode (zb m_Reader_byteAt) 26 = .ok (.baload, 1) from by decide +kernel) h3 h4).trans ?_
  refine (r_sipush (v := (255 : Int32)) (show decode (zb m_Reader_byteAt) 27 = .ok (.sipush (255), 3) from by decide +kernel) (by decide)).trans ?_
  refine (r_iand (show decode (zb m_Reader_byteAt) 30 = .ok (.iand, 1) from by decide +kernel)).trans ?_
  exact r_goto 35 (show decode (zb m_Reader_byteAt) 31 = .ok (.goto (4), 3) from by decide +kernel) rfl
theorem b_Reader_byteAt_34 {C : CF} {d : Nat} {σ : HP} {l0 : Option Value} {l1 : Option Value}  : runF C d m_Reader_byteAt (34, [l0, l1], [], σ) = runF C d m_Reader_byteAt (35, [l0, l1], [.int ((-1 : Int32))], σ) := by
  exact r_iconst (v := (-1 : Int32)) (show decode (zb m_Reader_byteAt) 34 = .ok (.iconst (-1), 1) from by decide +kernel) (by decide)
theorem b_Reader_byteAt_35 {C : CF} {d : Nat} {σ : HP} {s0 : Int32} {l0 : Option Value} {l1 : Option Value}  : runF C d m_Reader_byteAt (35, [l0, l1], [.int s0], σ) = some (.inl (some (.int s0)), σ) := by
  exact r_iret (show decode (zb m_Reader_byteAt) 35 = .ok (.ireturn, 1) from by decide +kernel) rfl rfl
theorem e_Reader_readWord {d : Nat} {σ : HP} {a0 : Nat} {a1 : Nat} : callF (d + 1) m_Reader_readWord [.ref a0, .ref a1] σ = runF (callF d) d m_Reader_readWord (0, [some (.ref a0), some (.ref a1), none, none, none], [], σ) := callF_in rfl rfl
theorem b_Reader_readWord_0 {C : CF} {d : Nat} {σ : HP} {a0 : Nat} {l1 : Option Value} {l2 : Option Value} {l3 : Option Value} {l4 : Option Value} (h1 : a0 % 64 = 7) : runF C d m_Reader_readWord (0, [some (.ref a0), l1, l2, l3, l4], [], σ) = bk C d m_Reader_readWord 1 [some (.ref a0), l1, l2, l3, l4] [] (C m_Reader_peek [.ref a0] σ) := by
  refine (r_aloadn 0 (show decode (zb m_Reader_readWord) 0 = .ok (.aload_n 0, 1) from by decide +kernel) rfl).trans ?_
  exact r_virt (args := []) (rest := []) (show decode (zb m_Reader_readWord) 1 = .ok (.invokevirtual 41, 3) from by decide +kernel) rfl rfl rfl h1
theorem b_Reader_readWord_4 {C : CF} {d : Nat} {σ : HP} {s0 : Int32} {a0 : Nat} {l1 : Option Value} {l2 : Option Value} {l3 : Option Value} {l4 : Option Value} (h1 : a0 % 64 = 7) : runF C d m_Reader_readWord (4, [some (.ref a0), l1, l2, l3, l4], [.int s0], σ) = runF C d m_Reader_readWord (13, [some (.ref a0), l1, l2, l3, l4], [], wI σ a0 5 (gI σ a0 2)) := by
  refine (r_popI (show decode (zb m_Reader_readWord) 4 = .ok (.pop, 1) from by decide +kernel)).trans ?_
  refine (r_aloadn 0 (show decode (zb m_Reader_readWord) 5 = .ok (.aload_n 0, 1) from by decide +kernel) rfl).trans ?_
  refine (r_aloadn 0 (show decode (zb m_Reader_readWord) 6 = .ok (.aload_n 0, 1) from by decide +kernel) rfl).trans ?_
  refine (r_getI (show decode (zb m_Reader_readWord) 7 = .ok (.getfield 19, 3) from by decide +kernel) rfl rfl h1).trans ?_
  exact r_putI (show decode (zb m_Reader_readWord) 10 = .ok (.putfield 28, 3) from by decide +kernel) rfl rfl rfl h1
theorem b_Reader_readWord_13 {C : CF} {d : Nat} {σ : HP} {a0 : Nat} {l1 : Option Value} {l2 : Option Value} {l3 : Option Value} {l4 : Option Value} (h1 : a0 % 64 = 7) : runF C d m_Reader_readWord (13, [some (.ref a0), l1, l2, l3, l4], [], σ) = if (gI σ a0 1) ≤ (gI σ a0 2) then runF C d m_Reader_readWord (51, [some (.ref a0), l1, l2, l3, l4], [], σ) else runF C d m_Reader_readWord (24, [some (.ref a0), l1, l2, l3, l4], [], σ) := by
  refine (r_aloadn 0 (show decode (zb m_Reader_readWord) 13 = .ok (.aload_n 0, 1) from by decide +kernel) rfl).trans ?_
  refine (r_getI (show decode (zb m_Reader_readWord) 14 = .ok (.getfield 19, 3) from by decide +kernel) rfl rfl h1).trans ?_
  refine (r_aloadn 0 (show decode (zb m_Reader_readWord) 17 = .ok (.aload_n 0, 1) from by decide +kernel) rfl).trans ?_
  refine (r_getI (show decode (zb m_Reader_readWord) 18 = .ok (.getfield 15, 3) from by decide +kernel) rfl rfl h1).trans ?_
  exact r_icmp_ge 51 (show decode (zb m_Reader_readWord) 21 = .ok (.if_icmp .ge (30), 3) from by decide +kernel) rfl
theorem b_Reader_readWord_24 {C : CF} {d : Nat} {σ : HP} {a0 : Nat} {l1 : Option Value} {l2 : Option Value} {l3 : Option Value} {l4 : Option Value} (h1 : a0 % 64 = 7) : runF C d m_Reader_readWord (24, [some (.ref a0), l1, l2, l3, l4], [], σ) = bk C d m_Reader_readWord 29 [some (.ref a0), l1, l2, l3, l4] [] (C m_Reader_byteAt [.ref a0, .int (gI σ a0 2)] σ) := by
  refine (r_aloadn 0 (show decode (zb m_Reader_readWord) 24 = .ok (.aload_n 0, 1) from by decide +kernel) rfl).trans ?_
  refine (r_aloadn 0 (show decode (zb m_Reader_readWord) 25 = .ok (.aload_n 0, 1) from by decide +kernel) rfl).trans ?_
  refine (r_getI (show decode (zb m_Reader_readWord) 26 = .ok (.getfield 19, 3) from by decide +kernel) rfl rfl h1).trans ?_
  exact r_virt (args := [.int (gI σ a0 2)]) (rest := []) (show decode (zb m_Reader_readWord) 29 = .ok (.invokevirtual 37, 3) from by decide +kernel) rfl rfl rfl h1
theorem b_Reader_readWord_32 {C : CF} {d : Nat} {σ : HP} {s0 : Int32} {l0 : Option Value} {l1 : Option Value} {l2 : Option Value} {l3 : Option Value} {l4 : Option Value}  : runF C d m_Reader_readWord (32, [l0, l1, l2, l3, l4], [.int s0], σ) = bkN C d m_Reader_readWord 32 [l0, l1, l2, l3, l4] [] (C m_Reader_isLetter [.int s0] σ) := by
  exact r_stat (args := [.int s0]) (rest := []) (show decode (zb m_Reader_readWord) 32 = .ok (.invokestatic 54, 3) from by decide +kernel) rfl (by decide) rfl rfl
theorem b_Reader_readWord_35 {C : CF} {d : Nat} {σ : HP} {s0 : Int32} {l0 : Option Value} {l1 : Option Value} {l2 : Option Value} {l3 : Option Value} {l4 : Option Value}  : runF C d m_Reader_readWord (35, [l0, l1, l2, l3, l4], [.int s0], σ) = if s0 = 0 then runF C d m_Reader_readWord (51, [l0, l1, l2, l3, l4], [], σ) else runF C d m_Reader_readWord (38, [l0, l1, l2, l3, l4], [], σ) := by
  exact r_if_eq 51 (show decode (zb m_Reader_readWord) 35 = .ok (.ifCond .eq (16), 3) from by decide +kernel) rfl
theorem b_Reader_readWord_38 {C : CF} {d : Nat} {σ : HP} {a0 : Nat} {l1 : Option Value} {l2 : Option Value} {l3 : Option Value} {l4 : Option Value} (h1 : a0 % 64 = 7) : runF C d m_Reader_readWord (38, [some (.ref a0), l1, l2, l3, l4], [], σ) = runF C d m_Reader_readWord (13, [some (.ref a0), l1, l2, l3, l4], [], wI σ a0 2 ((gI σ a0 2) + (1 : Int32))) := by
  refine (r_aloadn 0 (show decode (zb m_Reader_readWord) 38 = .ok (.aload_n 0, 1) from by decide +kernel) rfl).trans ?_
  refine (r_dupR (show decode (zb m_Reader_readWord) 39 = .ok (.dup, 1) from by decide +kernel)).trans ?_
  refine (r_getI (show decode (zb m_Reader_readWord) 40 = .ok (.getfield 19, 3) from by decide +kernel) rfl rfl h1).trans ?_
  refine (r_iconst (v := (1 : Int32)) (show decode (zb m_Reader_readWord) 43 = .ok (.iconst (1), 1) from by decide +kernel) (by decide)).trans ?_
  refine (r_iadd (show decode (zb m_Reader_readWord) 44 = .ok (.iadd, 1) from by decide +kernel)).trans ?_
  refine (r_putI (show decode (zb m_Reader_readWord) 45 = .ok (.putfield 19, 3) from by decide +kernel) rfl rfl rfl h1).trans ?_
  exact r_goto 13 (show decode (zb m_Reader_readWord) 48 = .ok (.goto (-35), 3) from by decide +kernel) rfl
theorem b_Reader_readWord_51 {C : CF} {d : Nat} {σ : HP} {l0 : Option Value} {l1 : Option Value} {l2 : Option Value} {l3 : Option Value} {l4 : Option Value}  : runF C d m_Reader_readWord (51, [l0, l1, l2, l3, l4], [], σ) = runF C d m_Reader_readWord (58, [l0, l1, some (.int ((0 : Int32))), some (.int ((0 : Int32))), some (.int ((0 : Int32)))], [], σ) := by
  refine (r_iconst (v := (0 : Int32)) (show decode (zb m_Reader_readWord) 51 = .ok (.iconst (0), 1) from by decide +kernel) (by decide)).trans ?_
  refine (r_istoren 2 (show decode (zb m_Reader_readWord) 52 = .ok (.istore_n 2, 1) from by decide +kernel) rfl).trans ?_
  refine (r_iconst (v := (0 : Int32)) (show decode (zb m_Reader_readWord) 53 = .ok (.iconst (0), 1) from by decide +kernel) (by decide)).trans ?_
  refine (r_istoren 3 (show decode (zb m_Reader_readWord) 54 = .ok (.istore_n 3, 1) from by decide +kernel) rfl).trans ?_
  refine (r_iconst (v := (0 : Int32)) (show decode (zb m_Reader_readWord) 55 = .ok (.iconst (0), 1) from by decide +kernel) (by decide)).trans ?_
  exact r_istore 4 (show decode (zb m_Reader_readWord) 56 = .ok (.istore 4, 2) from by decide +kernel) rfl
theorem b_Reader_readWord_58 {C : CF} {d : Nat} {σ : HP} {x4 : Int32} {a1 : Nat} {l0 : Option Value} {l2 : Option Value} {l3 : Option Value} (h1 : 4 ≤ d) (h2 : a1 % 64 = 16) (h3 : a1 / 64 < 27) : runF C d m_Reader_readWord (58, [l0, some (.ref a1), l2, l3, some (.int x4)], [], σ) = if (Int32.ofNat (slen (a1 / 64))) < x4 then runF C d m_Reader_readWord (117, [l0, some (.ref a1), l2, l3, some (.int x4)], [], σ) else runF C d m_Reader_readWord (67, [l0, some (.ref a1), l2, l3, some (.int x4)], [], σ) := by
  refine (r_iload 4 (show decode (zb m_Reader_readWord) 58 = .ok (.iload 4, 2) from by decide +kernel) rfl).trans ?_
  refine (r_aloadn 1 (show decode (zb m_Reader_readWord) 60 = .ok (.aload_n 1, 1) from by decide +kernel) rfl).trans ?_
  refine (r_slen (show decode (zb m_Reader_readWord) 61 = .ok (.invokevirtual 57, 3) from by decide +kernel) rfl h1 h2 h3 rfl).trans ?_
  exact r_icmp_gt 117 (show decode (zb m_Reader_readWord) 64 = .ok (.if_icmp .gt (53), 3) from by decide +kernel) rfl
theorem b_Reader_readWord_67 {C : CF} {d : Nat} {σ : HP} {x4 : Int32} {a1 : Nat} {l0 : Option Value} {l2 : Option Value} {l3 : Option Value} (h1 : 4 ≤ d) (h2 : a1 % 64 = 16) (h3 : a1 / 64 < 27) : runF C d m_Reader_readWord (67, [l0, some (.ref a1), l2, l3, some (.int x4)], [], σ) = if (Int32.ofNat (slen (a1 / 64))) ≤ x4 then runF C d m_Reader_readWord (90, [l0, some (.ref a1), l2, l3, some (.int x4)], [], σ) else runF C d m_Reader_readWord (76, [l0, some (.ref a1), l2, l3, some (.int x4)], [], σ) := by
  refine (r_iload 4 (show decode (zb m_Reader_readWord) 67 = .ok (.iload 4, 2) from by decide +kernel) rfl).trans ?_
  refine (r_aloadn 1 (show decode (zb m_Reader_readWord) 69 = .ok (.aload_n 1, 1) from by decide +kernel) rfl).trans ?_
  refine (r_slen (show decode (zb m_Reader_readWord) 70 = .ok (.invokevirtual 57, 3) from by decide +kernel) rfl h1 h2 h3 rfl).trans ?_
  exact r_icmp_ge 90 (show decode (zb m_Reader_readWord) 73 = .ok (.if_icmp .ge (17), 3) from by decide +kernel) rfl
theorem b_Reader_readWord_76 {C : CF} {d : Nat} {σ : HP} {a1 : Nat} {x4 : Int32} {l0 : Option Value} {l2 : Option Value} {l3 : Option Value} (h1 : 4 ≤ d) (h2 : a1 % 64 = 16) (h3 : a1 / 64 < 27) (h4 : inR x4 (slen (a1 / 64)) = true) : runF C d m_Reader_readWord (76, [l0, some (.ref a1), l2, l3, some (.int x4)], [], σ) = if (sbyt (a1 / 64) (Int32.toNatClampNeg x4)) = (32 : Int32) then runF C d m_Reader_readWord (90, [l0, some (.ref a1), l2, l3, some (.int x4)], [], σ) else runF C d m_Reader_readWord (87, [l0, some (.ref a1), l2, l3, some (.int x4)], [], σ) := by
  refine (r_aloadn 1 (show decode (zb m_Reader_readWord) 76 = .ok (.aload_n 1, 1) from by decide +kernel) rfl).trans ?_
  refine (r_iload 4 (show decode (zb m_Reader_readWord) 77 = .ok (.iload 4, 2) from by decide +kernel) rfl).trans ?_
  refine (r_char (show decode (zb m_Reader_readWord) 79 = .ok (.invokevirtual 61, 3) from by decide +kernel) rfl h1 h2 h3 rfl h4).trans ?_
  refine (r_bipush (v := (32 : Int32)) (show decode (zb m_Reader_readWord) 82 = .ok (.bipush (32), 2) from by decide +kernel) (by decide)).trans ?_
  exact r_icmp_eq 90 (show decode (zb m_Reader_readWord) 84 = .ok (.if_icmp .eq (6), 3) from by decide +kernel) rfl
theorem b_Reader_readWord_87 {C : CF} {d : Nat} {σ : HP} {l0 : Option Value} {l1 : Option Value} {l2 : Option Value} {l3 : Option Value} {l4 : Option Value}  : runF C d m_Reader_readWord (87, [l0, l1, l2, l3, l4], [], σ) = runF C d m_Reader_readWord (111, [l0, l1, l2, l3, l4], [], σ) := by
  exact r_goto 111 (show decode (zb m_Reader_readWord) 87 = .ok (.goto (24), 3) from by decide +kernel) rfl
theorem b_Reader_readWord_90 {C : CF} {d : Nat} {σ : HP} {a0 : Nat} {a1 : Nat} {x3 : Int32} {x4 : Int32} {l2 : Option Value} (h1 : a0 % 64 = 7) : runF C d m_Reader_readWord (90, [some (.ref a0), some (.ref a1), l2, some (.int x3), some (.int x4)], [], σ) = bk C d m_Reader_readWord 95 [some (.ref a0), some (.ref a1), l2, some (.int x3), some (.int x4)] [] (C m_Reader_isWordLike [.ref a0, .ref a1, .int x3, .int x4] σ) := by
  refine (r_aloadn 0 (show decode (zb m_Reader_readWord) 90 = .ok (.aload_n 0, 1) from by decide +kernel) rfl).trans ?_
  refine (r_aloadn 1 (show decode (zb m_Reader_readWord) 91 = .ok (.aload_n 1, 1) from by decide +kernel) rfl).trans ?_
  refine (r_iloadn 3 (show decode (zb m_Reader_readWord) 92 = .ok (.iload_n 3, 1) from by decide +kernel) rfl).trans ?_
  refine (r_iload 4 (show decode (zb m_Reader_readWord) 93 = .ok (.iload 4, 2) from by decide +kernel) rfl).trans ?_
  exact r_virt (args := [.ref a1, .int x3, .int x4]) (rest := []) (show decode (zb m_Reader_readWord) 95 = .ok (.invokevirtual 65, 3) from by decide +kernel) rfl rfl rfl h1
theorem b_Reader_readWord_98 {C : CF} {d : Nat} {σ : HP} {s0 : Int32} {l0 : Option Value} {l1 : Option Value} {l2 : Option Value} {l3 : Option Value} {l4 : Option Value}  : runF C d m_Reader_readWord (98, [l0, l1, l2, l3, l4], [.int s0], σ) = if s0 = 0 then runF C d m_Reader_readWord (103, [l0, l1, l2, l3, l4], [], σ) else runF C d m_Reader_readWord (101, [l0, l1, l2, l3, l4], [], σ) := by
  exact r_if_eq 103 (show decode (zb m_Reader_readWord) 98 = .ok (.ifCond .eq (5), 3) from by decide +kernel) rfl
theorem b_Reader_readWord_101 {C : CF} {d : Nat} {σ : HP} {x2 : Int32} {l0 : Option Value} {l1 : Option Value} {l3 : Option Value} {l4 : Option Value}  : runF C d m_Reader_readWord (101, [l0, l1, some (.int x2), l3, l4], [], σ) = some (.inl (some (.int x2)), σ) := by
  refine (r_iloadn 2 (show decode (zb m_Reader_readWord) 101 = .ok (.iload_n 2, 1) from by decide +kernel) rfl).trans ?_
  exact r_iret (show decode (zb m_Reader_readWord) 102 = .ok (.ireturn, 1) from by decide +kernel) rfl rfl
theorem b_Reader_readWord_103 {C : CF} {d : Nat} {σ : HP} {x2 : Int32} {x4 : Int32} {l0 : Option Value} {l1 : Option Value} {l3 : Option Value}  : runF C d m_Reader_readWord (103, [l0, l1, some (.int x2), l3, some (.int x4)], [], σ) = runF C d m_Reader_readWord (111, [l0, l1, some (.int (x2 + (1 : Int32))), some (.int (x4 + (1 : Int32))), some (.int x4)], [], σ) := by
  refine (r_iinc 2 (v := (1 : Int32)) (show decode (zb m_Reader_readWord) 103 = .ok (.iinc 2 (1), 3) from by decide +kernel) rfl rfl (by decide)).trans ?_
  refine (r_iload 4 (show decode (zb m_Reader_readWord) 106 = .ok (.iload 4, 2) from by decide +kernel) rfl).trans ?_
  refine (r_iconst (v := (1 : Int32)) (show decode (zb m_Reader_readWord) 108 = .ok (.iconst (1), 1) from by decide +kernel) (by decide)).trans ?_
  refine (r_iadd (show decode (zb m_Reader_readWord) 109 = .ok (.iadd, 1) from by decide +kernel)).trans ?_
  exact r_istoren 3 (show decode (zb m_Reader_readWord) 110 = .ok (.istore_n 3, 1) from by decide +kernel) rfl
theorem b_Reader_readWord_111 {C : CF} {d : Nat} {σ : HP} {x4 : Int32} {l0 : Option Value} {l1 : Option Value} {l2 : Option Value} {l3 : Option Value}  : runF C d m_Reader_readWord (111, [l0, l1, l2, l3, some (.int x4)], [], σ) = runF C d m_Reader_readWord (58, [l0, l1, l2, l3, some (.int (x4 + (1 : Int32)))], [], σ) := by
  refine (r_iinc 4 (v := (1 : Int32)) (show decode (zb m_Reader_readWord) 111 = .ok (.iinc 4 (1), 3) from by decide +kernel) rfl rfl (by decide)).trans ?_
  exact r_goto 58 (show decode (zb m_Reader_readWord) 114 = .ok (.goto (-56), 3) from by decide +kernel) rfl
theorem b_Reader_readWord_117 {C : CF} {d : Nat} {σ : HP} {a0 : Nat} {l1 : Option Value} {l2 : Option Value} {l3 : Option Value} {l4 : Option Value} (h1 : a0 % 64 = 7) : runF C d m_Reader_readWord (117, [some (.ref a0), l1, l2, l3, l4], [], σ) = bk C d m_Reader_readWord 123 [some (.ref a0), l1, l2, l3, l4] [] (C m_Reader_blame [.ref a0, .int ((1 : Int32)), .int (gI σ a0 5)] σ) := by
  refine (r_aloadn 0 (show decode (zb m_Reader_readWord) 117 = .ok (.aload_n 0, 1) from by decide +kernel) rfl).trans ?_
  refine (r_iconst (v := (1 : Int32)) (show decode (zb m_Reader_readWord) 118 = .ok (.iconst (1), 1) from by decide +kernel) (by decide)).trans ?_
  refine (r_aloadn 0 (show decode (zb m_Reader_readWord) 119 = .ok (.aload_n 0, 1) from by decide +kernel) rfl).trans ?_
  refine (r_getI (show decode (zb m_Reader_readWord) 120 = .ok (.getfield 28, 3) from by decide +kernel) rfl rfl h1).trans ?_
  exact r_virt (args := [.int ((1 : Int32)), .int (gI σ a0 5)]) (rest := []) (show decode (zb m_Reader_readWord) 123 = .ok (.invokevirtual 45, 3) from by decide +kernel) rfl rfl rfl h1
theorem b_Reader_readWord_126 {C : CF} {d : Nat} {σ : HP} {l0 : Option Value} {l1 : Option Value} {l2 : Option Value} {l3 : Option Value} {l4 : Option Value}  : runF C d m_Reader_readWord (126, [l0, l1, l2, l3, l4], [], σ) = some (.inl (some (.int (-1 : Int32))), σ) := by
  refine (r_iconst (v := (-1 : Int32)) (show decode (zb m_Reader_readWord) 126 = .ok (.iconst (-1), 1) from by decide +kernel) (by decide)).trans ?_
  exact r_iret (show decode (zb m_Reader_readWord) 127 = .ok (.ireturn, 1) from by decide +kernel) rfl rfl
theorem e_Reader_isLetter {d : Nat} {σ : HP} {x0 : Int32} : callF (d + 1) m_Reader_isLetter [.int x0] σ = runF (callF d) d m_Reader_isLetter (0, [some (.int x0)], [], σ) := callF_in rfl rfl
theorem b_Reader_isLetter_0 {C : CF} {d : Nat} {σ : HP} {x0 : Int32}  : runF C d m_Reader_isLetter (0, [some (.int x0)], [], σ) = if x0 < (97 : Int32) then runF C d m_Reader_isLetter (16, [some (.int x0)], [], σ) else runF C d m_Reader_isLetter (6, [some (.int x0)], [], σ) := by
  refine (r_iloadn 0 (show decode (zb m_Reader_isLetter) 0 = .ok (.iload_n 0, 1) from by decide +kernel) rfl).trans ?_
  refine (r_bipush (v := (97 : Int32)) (show decode (zb m_Reader_isLetter) 1 = .ok (.bipush (97), 2) from by decide +kernel) (by decide)).trans ?_
  exact r_icmp_lt 16 (show decode (zb m_Reader_isLetter) 3 = .ok (.if_icmp .lt (13), 3) from by decide +kernel) rfl
theorem b_Reader_isLetter_6 {C : CF} {d : Nat} {σ : HP} {x0 : Int32}  : runF C d m_Reader_isLetter (6, [some (.int x0)], [], σ) = if (122 : Int32) < x0 then runF C d m_Reader_isLetter (16, [some (.int x0)], [], σ) else runF C d m_Reader_isLetter (12, [some (.int x0)], [], σ) := by
  refine (r_iloadn 0 (show decode (zb m_Reader_isLetter) 6 = .ok (.iload_n 0, 1) from by decide +kernel) rfl).trans ?_
  refine (r_bipush (v := (122 : Int32)) (show decode (zb m_Reader_isLetter) 7 = .ok (.bipush (122), 2) from by decide +kernel) (by decide)).trans ?_
  exact r_icmp_gt 16 (show decode (zb m_Reader_isLetter) 9 = .ok (.if_icmp .gt (7), 3) from by decide +kernel) rfl
theorem b_Reader_isLetter_12 {C : CF} {d : Nat} {σ : HP} {l0 : Option Value}  : runF C d m_Reader_isLetter (12, [l0], [], σ) = runF C d m_Reader_isLetter (17, [l0], [.int ((1 : Int32))], σ) := by
  refine (r_iconst (v := (1 : Int32)) (show decode (zb m_Reader_isLetter) 12 = .ok (.iconst (1), 1) from by decide +kernel) (by decide)).trans ?_
  exact r_goto 17 (show decode (zb m_Reader_isLetter) 13 = .ok (.goto (4), 3) from by decide +kernel) rfl
theorem b_Reader_isLetter_16 {C : CF} {d : Nat} {σ : HP} {l0 : Option Value}  : runF C d m_Reader_isLetter (16, [l0], [], σ) = runF C d m_Reader_isLetter (17, [l0], [.int ((0 : Int32))], σ) := by
  exact r_iconst (v := (0 : Int32)) (show decode (zb m_Reader_isLetter) 16 = .ok (.iconst (0), 1) from by decide +kernel) (by decide)
theorem b_Reader_isLetter_17 {C : CF} {d : Nat} {σ : HP} {s0 : Int32} {l0 : Option Value} (h1 : s0 = 0 ∨ s0 = 1) : runF C d m_Reader_isLetter (17, [l0], [.int s0], σ) = some (.inl (some (.int s0)), σ) := by
  exact r_bret (show decode (zb m_Reader_isLetter) 17 = .ok (.ireturn, 1) from by decide +kernel) rfl h1
theorem e_Reader_isWordLike {d : Nat} {σ : HP} {a0 : Nat} {a1 : Nat} {x2 : Int32} {x3 : Int32} : callF (d + 1) m_Reader_isWordLike [.ref a0, .ref a1, .int x2, .int x3] σ = runF (callF d) d m_Reader_isWordLike (0, [some (.ref a0), some (.ref a1), some (.int x2), some (.int x3), none], [], σ) := callF_in rfl rfl
theorem b_Reader_isWordLike_0 {C : CF} {d : Nat} {σ : HP} {x3 : Int32} {x2 : Int32} {a0 : Nat} {l1 : Option Value} {l4 : Option Value} (h1 : a0 % 64 = 7) : runF C d m_Reader_isWordLike (0, [some (.ref a0), l1, some (.int x2), some (.int x3), l4], [], σ) = if (x3 - x2) = ((gI σ a0 2) - (gI σ a0 5)) then runF C d m_Reader_isWordLike (17, [some (.ref a0), l1, some (.int x2), some (.int x3), l4], [], σ) else runF C d m_Reader_isWordLike (15, [some (.ref a0), l1, some (.int x2), some (.int x3), l4], [], σ) := by
  refine (r_iloadn 3 (show decode (zb m_Reader_isWordLike) 0 = .ok (.iload_n 3, 1) from by decide +kernel) rfl).trans ?_
  refine (r_iloadn 2 (show decode (zb m_Reader_isWordLike) 1 = .ok (.iload_n 2, 1) from by decide +kernel) rfl).trans ?_
  refine (r_isub (show decode (zb m_Reader_isWordLike) 2 = .ok (.isub, 1) from by decide +kernel)).trans ?_
  refine (r_aloadn 0 (show decode (zb m_Reader_isWordLike) 3 = .ok (.aload_n 0, 1) from by decide +kernel) rfl).trans ?_
  refine (r_getI (show decode (zb m_Reader_isWordLike) 4 = .ok (.getfield 19, 3) from by decide +kernel) rfl rfl h1).trans ?_
  refine (r_aloadn 0 (show decode (zb m_Reader_isWordLike) 7 = .ok (.aload_n 0, 1) from by decide +kernel) rfl).trans ?_
  refine (r_getI (show decode (zb m_Reader_isWordLike) 8 = .ok (.getfield 28, 3) from by decide +kernel) rfl rfl h1).trans ?_
  refine (r_isub (show decode (zb m_Reader_isWordLike) 11 = .ok (.isub, 1) from by decide +kernel)).trans ?_
  exact r_icmp_eq 17 (show decode (zb m_Reader_isWordLike) 12 = .ok (.if_icmp .eq (5), 3) from by decide +kernel) rfl
theorem b_Reader_isWordLike_15 {C : CF} {d : Nat} {σ : HP} {l0 : Option Value} {l1 : Option Value} {l2 : Option Value} {l3 : Option Value} {l4 : Option Value}  : runF C d m_Reader_isWordLike (15, [l0, l1, l2, l3, l4], [], σ) = some (.inl (some (.int (0 : Int32))), σ) := by
  refine (r_iconst (v := (0 : Int32)) (show decode (zb m_Reader_isWordLike) 15 = .ok (.iconst (0), 1) from by decide +kernel) (by decide)).trans ?_
  exact r_bret (show decode (zb m_Reader_isWordLike) 16 = .ok (.ireturn, 1) from by decide +kernel) rfl (by decide)
theorem b_Reader_isWordLike_17 {C : CF} {d : Nat} {σ : HP} {x2 : Int32} {l0 : Option Value} {l1 : Option Value} {l3 : Option Value} {l4 : Option Value}  : runF C d m_Reader_isWordLike (17, [l0, l1, some (.int x2), l3, l4], [], σ) = runF C d m_Reader_isWordLike (20, [l0, l1, some (.int x2), l3, some (.int x2)], [], σ) := by
  refine (r_iloadn 2 (show decode (zb m_Reader_isWordLike) 17 = .ok (.iload_n 2, 1) from by decide +kernel) rfl).trans ?_
  exact r_istore 4 (show decode (zb m_Reader_isWordLike) 18 = .ok (.istore 4, 2) from by decide +kernel) rfl
theorem b_Reader_isWordLike_20 {C : CF} {d : Nat} {σ : HP} {x4 : Int32} {x3 : Int32} {l0 : Option Value} {l1 : Option Value} {l2 : Option Value}  : runF C d m_Reader_isWordLike (20, [l0, l1, l2, some (.int x3), some (.int x4)], [], σ) = if x3 ≤ x4 then runF C d m_Reader_isWordLike (65, [l0, l1, l2, some (.int x3), some (.int x4)], [], σ) else runF C d m_Reader_isWordLike (26, [l0, l1, l2, some (.int x3), some (.int x4)], [], σ) := by
  refine (r_iload 4 (show decode (zb m_Reader_isWordLike) 20 = .ok (.iload 4, 2) from by decide +kernel) rfl).trans ?_
  refine (r_iloadn 3 (show decode (zb m_Reader_isWordLike) 22 = .ok (.iload_n 3, 1) from by decide +kernel) rfl).trans ?_
  exact r_icmp_ge 65 (show decode (zb m_Reader_isWordLike) 23 = .ok (.if_icmp .ge (42), 3) from by decide +kernel) rfl
theorem b_Reader_isWordLike_26 {C : CF} {d : Nat} {σ : HP} {x4 : Int32} {a1 : Nat} {l0 : Option Value} {l2 : Option Value} {l3 : Option Value} (h1 : 4 ≤ d) (h2 : a1 % 64 = 16) (h3 : a1 / 64 < 27) : runF C d m_Reader_isWordLike (26, [l0, some (.ref a1), l2, l3, some (.int x4)], [], σ) = if (Int32.ofNat (slen (a1 / 64))) ≤ x4 then runF C d m_Reader_isWordLike (65, [l0, some (.ref a1), l2, l3, some (.int x4)], [], σ) else runF C d m_Reader_isWordLike (35, [l0, some (.ref a1), l2, l3, some (.int x4)], [], σ) := by
  refine (r_iload 4 (show decode (zb m_Reader_isWordLike) 26 = .ok (.iload 4, 2) from by decide +kernel) rfl).trans ?_
  refine (r_aloadn 1 (show decode (zb m_Reader_isWordLike) 28 = .ok (.aload_n 1, 1) from by decide +kernel) rfl).trans ?_
  refine (r_slen (show decode (zb m_Reader_isWordLike) 29 = .ok (.invokevirtual 57, 3) from by decide +kernel) rfl h1 h2 h3 rfl).trans ?_
  exact r_icmp_ge 65 (show decode (zb m_Reader_isWordLike) 32 = .ok (.if_icmp .ge (33), 3) from by decide +kernel) rfl
theorem b_Reader_isWordLike_35 {C : CF} {d : Nat} {σ : HP} {a1 : Nat} {x4 : Int32} {a0 : Nat} {x2 : Int32} {l3 : Option Value} (h1 : 4 ≤ d) (h2 : a1 % 64 = 16) (h3 : a1 / 64 < 27) (h4 : inR x4 (slen (a1 / 64)) = true) (h5 : a0 % 64 = 7) : runF C d m_Reader_isWordLike (35, [some (.ref a0), some (.ref a1), some (.int x2), l3, some (.int x4)], [], σ) = bk C d m_Reader_isWordLike 51 [some (.ref a0), some (.ref a1), some (.int x2), l3, some (.int x4)] [.int (sbyt (a1 / 64) (Int32.toNatClampNeg x4))] (C m_Reader_byteAt [.ref a0, .int (((gI σ a0 5) + x4) - x2)] σ) := by
  refine (r_aloadn 1 (show decode (zb m_Reader_isWordLike) 35 = .ok (.aload_n 1, 1) from by decide +kernel) rfl).trans ?_
  refine (r_iload 4 (show decode (zb m_Reader_isWordLike) 36 = .ok (.iload 4, 2) from by decide +kernel) rfl).trans ?_
  refine (r_char (show decode (zb m_Reader_isWordLike) 38 = .ok (.invokevirtual 61, 3) from by decide +kernel) rfl h1 h2 h3 rfl h4).trans ?_
  refine (r_aloadn 0 (show decode (zb m_Reader_isWordLike) 41 = .ok (.aload_n 0, 1) from by decide +kernel) rfl).trans ?_
  refine (r_aloadn 0 (show decode (zb m_Reader_isWordLike) 42 = .ok (.aload_n 0, 1) from by decide +kernel) rfl).trans ?_
  refine (r_getI (show decode (zb m_Reader_isWordLike) 43 = .ok (.getfield 28, 3) from by decide +kernel) rfl rfl h5).trans ?_
  refine (r_iload 4 (show decode (zb m_Reader_isWordLike) 46 = .ok (.iload 4, 2) from by decide +kernel) rfl).trans ?_
  refine (r_iadd (show decode (zb m_Reader_isWordLike) 48 = .ok (.iadd, 1) from by decide +kernel)).trans ?_
  refine (r_iloadn 2 (show decode (zb m_Reader_isWordLike) 49 = .ok (.iload_n 2, 1) from by decide +kernel) rfl).trans ?_
  refine (r_isub (show decode (zb m_Reader_isWordLike) 50 = .ok (.isub, 1) from by decide +kernel)).trans ?_
  exact r_virt (args := [.int (((gI σ a0 5) + x4) - x2)]) (rest := [.int (sbyt (a1 / 64) (Int32.toNatClampNeg x4))]) (show decode (zb m_Reader_isWordLike) 51 = .ok (.invokevirtual 37, 3) from by decide +kernel) rfl rfl rfl h5
theorem b_Reader_isWordLike_54 {C : CF} {d : Nat} {σ : HP} {s0 : Int32} {s1 : Int32} {l0 : Option Value} {l1 : Option Value} {l2 : Option Value} {l3 : Option Value} {l4 : Option Value}  : runF C d m_Reader_isWordLike (54, [l0, l1, l2, l3, l4], [.int s0, .int s1], σ) = if s1 = s0 then runF C d m_Reader_isWordLike (59, [l0, l1, l2, l3, l4], [], σ) else runF C d m_Reader_isWordLike (57, [l0, l1, l2, l3, l4], [], σ) := by
  exact r_icmp_eq 59 (show decode (zb m_Reader_isWordLike) 54 = .ok (.if_icmp .eq (5), 3) from by decide +kernel) rfl
theorem b_Reader_isWordLike_57 {C : CF} {d : Nat} {σ : HP} {l0 : Option Value} {l1 : Option Value} {l2 : Option Value} {l3 : Option Value} {l4 : Option Value}  : runF C d m_Reader_isWordLike (57, [l0, l1, l2, l3, l4], [], σ) = some (.inl (some (.int (0 : Int32))), σ) := by
  refine (r_iconst (v := (0 : Int32)) (show decode (zb m_Reader_isWordLike) 57 = .ok (.iconst (0), 1) from by decide +kernel) (by decide)).trans ?_
  exact r_bret (show decode (zb m_Reader_isWordLike) 58 = .ok (.ireturn, 1) from by decide +kernel) rfl (by decide)
theorem b_Reader_isWordLike_59 {C : CF} {d : Nat} {σ : HP} {x4 : Int32} {l0 : Option Value} {l1 : Option Value} {l2 : Option Value} {l3 : Option Value}  : runF C d m_Reader_isWordLike (59, [l0, l1, l2, l3, some (.int x4)], [], σ) = runF C d m_Reader_isWordLike (20, [l0, l1, l2, l3, some (.int (x4 + (1 : Int32)))], [], σ) := by
  refine (r_iinc 4 (v := (1 : Int32)) (show decode (zb m_Reader_isWordLike) 59 = .ok (.iinc 4 (1), 3) from by decide +kernel) rfl rfl (by decide)).trans ?_
  exact r_goto 20 (show decode (zb m_Reader_isWordLike) 62 = .ok (.goto (-42), 3) from by decide +kernel) rfl
theorem b_Reader_isWordLike_65 {C : CF} {d : Nat} {σ : HP} {l0 : Option Value} {l1 : Option Value} {l2 : Option Value} {l3 : Option Value} {l4 : Option Value}  : runF C d m_Reader_isWordLike (65, [l0, l1, l2, l3, l4], [], σ) = some (.inl (some (.int (1 : Int32))), σ) := by
  refine (r_iconst (v := (1 : Int32)) (show decode (zb m_Reader_isWordLike) 65 = .ok (.iconst (1), 1) from by decide +kernel) (by decide)).trans ?_
  exact r_bret (show decode (zb m_Reader_isWordLike) 66 = .ok (.ireturn, 1) from by decide +kernel) rfl (by decide)
theorem e_Reader_blame {d : Nat} {σ : HP} {a0 : Nat} {x1 : Int32} {x2 : Int32} : callF (d + 1) m_Reader_blame [.ref a0, .int x1, .int x2] σ = runF (callF d) d m_Reader_blame (0, [some (.ref a0), some (.int x1), some (.int x2)], [], σ) := callF_in rfl rfl
theorem b_Reader_blame_0 {C : CF} {d : Nat} {σ : HP} {a0 : Nat} {l1 : Option Value} {l2 : Option Value} (h1 : a0 % 64 = 7) : runF C d m_Reader_blame (0, [some (.ref a0), l1, l2], [], σ) = if ¬ (gI σ a0 3) = 0 then runF C d m_Reader_blame (17, [some (.ref a0), l1, l2], [], σ) else runF C d m_Reader_blame (7, [some (.ref a0), l1, l2], [], σ) := by
  refine (r_aloadn 0 (show decode (zb m_Reader_blame) 0 = .ok (.aload_n 0, 1) from by decide +kernel) rfl).trans ?_
  refine (r_getI (show decode (zb m_Reader_blame) 1 = .ok (.getfield 22, 3) from by decide +kernel) rfl rfl h1).trans ?_
  exact r_if_ne 17 (show decode (zb m_Reader_blame) 4 = .ok (.ifCond .ne (13), 3) from by decide +kernel) rfl
theorem b_Reader_blame_7 {C : CF} {d : Nat} {σ : HP} {a0 : Nat} {x1 : Int32} {x2 : Int32} (h1 : a0 % 64 = 7) : runF C d m_Reader_blame (7, [some (.ref a0), some (.int x1), some (.int x2)], [], σ) = runF C d m_Reader_blame (17, [some (.ref a0), some (.int x1), some (.int x2)], [], wI (wI σ a0 3 x1) a0 4 x2) := by
  refine (r_aloadn 0 (show decode (zb m_Reader_blame) 7 = .ok (.aload_n 0, 1) from by decide +kernel) rfl).trans ?_
  refine (r_iloadn 1 (show decode (zb m_Reader_blame) 8 = .ok (.iload_n 1, 1) from by decide +kernel) rfl).trans ?_
  refine (r_putI (show decode (zb m_Reader_blame) 9 = .ok (.putfield 22, 3) from by decide +kernel) rfl rfl rfl h1).trans ?_
  refine (r_aloadn 0 (show decode (zb m_Reader_blame) 12 = .ok (.aload_n 0, 1) from by decide +kernel) rfl).trans ?_
  refine (r_iloadn 2 (show decode (zb m_Reader_blame) 13 = .ok (.iload_n 2, 1) from by decide +kernel) rfl).trans ?_
  exact r_putI (show decode (zb m_Reader_blame) 14 = .ok (.putfield 25, 3) from by decide +kernel) rfl rfl rfl h1
theorem b_Reader_blame_17 {C : CF} {d : Nat} {σ : HP} {l0 : Option Value} {l1 : Option Value} {l2 : Option Value}  : runF C d m_Reader_blame (17, [l0, l1, l2], [], σ) = some (.inl none, σ) := by
  exact r_vret (show decode (zb m_Reader_blame) 17 = .ok (.return_, 1) from by decide +kernel) rfl
theorem e_Reader_readNumber {d : Nat} {σ : HP} {a0 : Nat} {x1 : Int32} {x2 : Int32} : callF (d + 1) m_Reader_readNumber [.ref a0, .int x1, .int x2] σ = runF (callF d) d m_Reader_readNumber (0, [some (.ref a0), some (.int x1), some (.int x2), none, none], [], σ) := callF_in rfl rfl
theorem b_Reader_readNumber_0 {C : CF} {d : Nat} {σ : HP} {a0 : Nat} {l1 : Option Value} {l2 : Option Value} {l3 : Option Value} {l4 : Option Value} (h1 : a0 % 64 = 7) : runF C d m_Reader_readNumber (0, [some (.ref a0), l1, l2, l3, l4], [], σ) = bk C d m_Reader_readNumber 1 [some (.ref a0), l1, l2, l3, l4] [] (C m_Reader_peek [.ref a0] σ) := by
  refine (r_aloadn 0 (show decode (zb m_Reader_readNumber) 0 = .ok (.aload_n 0, 1) from by decide +kernel) rfl).trans ?_
  exact r_virt (args := []) (rest := []) (show decode (zb m_Reader_readNumber) 1 = .ok (.invokevirtual 41, 3) from by decide +kernel) rfl rfl rfl h1
theorem b_Reader_readNumber_4 {C : CF} {d : Nat} {σ : HP} {s0 : Int32} {a0 : Nat} {l1 : Option Value} {l2 : Option Value} {l3 : Option Value} {l4 : Option Value} (h1 : a0 % 64 = 7) : runF C d m_Reader_readNumber (4, [some (.ref a0), l1, l2, l3, l4], [.int s0], σ) = runF C d m_Reader_readNumber (13, [some (.ref a0), l1, l2, some (.int (gI σ a0 2)), some (.int ((0 : Int32)))], [], σ) := by
  refine (r_popI (show decode (zb m_Reader_readNumber) 4 = .ok (.pop, 1) from by decide +kernel)).trans ?_
  refine (r_aloadn 0 (show decode (zb m_Reader_readNumber) 5 = .ok (.aload_n 0, 1) from by decide +kernel) rfl).trans ?_
  refine (r_getI (show decode (zb m_Reader_readNumber) 6 = .ok (.getfield 19, 3) from by decide +kernel) rfl rfl h1).trans ?_
  refine (r_istoren 3 (show decode (zb m_Reader_readNumber) 9 = .ok (.istore_n 3, 1) from by decide +kernel) rfl).trans ?_
  refine (r_iconst (v := (0 : Int32)) (show decode (zb m_Reader_readNumber) 10 = .ok (.iconst (0), 1) from by decide +kernel) (by decide)).trans ?_
  exact r_istore 4 (show decode (zb m_Reader_readNumber) 11 = .ok (.istore 4, 2) from by decide +kernel) rfl
theorem b_Reader_readNumber_13 {C : CF} {d : Nat} {σ : HP} {a0 : Nat} {l1 : Option Value} {l2 : Option Value} {l3 : Option Value} {l4 : Option Value} (h1 : a0 % 64 = 7) : runF C d m_Reader_readNumber (13, [some (.ref a0), l1, l2, l3, l4], [], σ) = if (gI σ a0 1) ≤ (gI σ a0 2) then runF C d m_Reader_readNumber (75, [some (.ref a0), l1, l2, l3, l4], [], σ) else runF C d m_Reader_readNumber (24, [some (.ref a0), l1, l2, l3, l4], [], σ) := by
  refine (r_aloadn 0 (show decode (zb m_Reader_readNumber) 13 = .ok (.aload_n 0, 1) from by decide +kernel) rfl).trans ?_
  refine (r_getI (show decode (zb m_Reader_readNumber) 14 = .ok (.getfield 19, 3) from by decide +kernel) rfl rfl h1).trans ?_
  refine (r_aloadn 0 (show decode (zb m_Reader_readNumber) 17 = .ok (.aload_n 0, 1) from by decide +kernel) rfl).trans ?_
  refine (r_getI (show decode (zb m_Reader_readNumber) 18 = .ok (.getfield 15, 3) from by decide +kernel) rfl rfl h1).trans ?_
  exact r_icmp_ge 75 (show decode (zb m_Reader_readNumber) 21 = .ok (.if_icmp .ge (54), 3) from by decide +kernel) rfl
theorem b_Reader_readNumber_24 {C : CF} {d : Nat} {σ : HP} {a0 : Nat} {l1 : Option Value} {l2 : Option Value} {l3 : Option Value} {l4 : Option Value} (h1 : a0 % 64 = 7) : runF C d m_Reader_readNumber (24, [some (.ref a0), l1, l2, l3, l4], [], σ) = bk C d m_Reader_readNumber 29 [some (.ref a0), l1, l2, l3, l4] [] (C m_Reader_byteAt [.ref a0, .int (gI σ a0 2)] σ) := by
  refine (r_aloadn 0 (show decode (zb m_Reader_readNumber) 24 = .ok (.aload_n 0, 1) from by decide +kernel) rfl).trans ?_
  refine (r_aloadn 0 (show decode (zb m_Reader_readNumber) 25 = .ok (.aload_n 0, 1) from by decide +kernel) rfl).trans ?_
  refine (r_getI (show decode (zb m_Reader_readNumber) 26 = .ok (.getfield 19, 3) from by decide +kernel) rfl rfl h1).trans ?_
  exact r_virt (args := [.int (gI σ a0 2)]) (rest := []) (show decode (zb m_Reader_readNumber) 29 = .ok (.invokevirtual 37, 3) from by decide +kernel) rfl rfl rfl h1
theorem b_Reader_readNumber_32 {C : CF} {d : Nat} {σ : HP} {s0 : Int32} {l0 : Option Value} {l1 : Option Value} {l2 : Option Value} {l3 : Option Value} {l4 : Option Value}  : runF C d m_Reader_readNumber (32, [l0, l1, l2, l3, l4], [.int s0], σ) = bkN C d m_Reader_readNumber 32 [l0, l1, l2, l3, l4] [] (C m_Reader_isDigit [.int s0] σ) := by
  exact r_stat (args := [.int s0]) (rest := []) (show decode (zb m_Reader_readNumber) 32 = .ok (.invokestatic 49, 3) from by decide +kernel) rfl (by decide) rfl rfl
theorem b_Reader_readNumber_35 {C : CF} {d : Nat} {σ : HP} {s0 : Int32} {l0 : Option Value} {l1 : Option Value} {l2 : Option Value} {l3 : Option Value} {l4 : Option Value}  : runF C d m_Reader_readNumber (35, [l0, l1, l2, l3, l4], [.int s0], σ) = if s0 = 0 then runF C d m_Reader_readNumber (75, [l0, l1, l2, l3, l4], [], σ) else runF C d m_Reader_readNumber (38, [l0, l1, l2, l3, l4], [], σ) := by
  exact r_if_eq 75 (show decode (zb m_Reader_readNumber) 35 = .ok (.ifCond .eq (40), 3) from by decide +kernel) rfl
theorem b_Reader_readNumber_38 {C : CF} {d : Nat} {σ : HP} {x4 : Int32} {a0 : Nat} {l1 : Option Value} {l2 : Option Value} {l3 : Option Value} (h1 : a0 % 64 = 7) : runF C d m_Reader_readNumber (38, [some (.ref a0), l1, l2, l3, some (.int x4)], [], σ) = bk C d m_Reader_readNumber 50 [some (.ref a0), l1, l2, l3, some (.int x4)] [.int (x4 * (10 : Int32)), .int ((100000 : Int32))] (C m_Reader_byteAt [.ref a0, .int (gI σ a0 2)] σ) := by
  refine (r_ldcI (v := (100000 : Int32)) (show decode (zb m_Reader_readNumber) 38 = .ok (.ldc 53, 2) from by decide +kernel) rfl).trans ?_
  refine (r_iload 4 (show decode (zb m_Reader_readNumber) 40 = .ok (.iload 4, 2) from by decide +kernel) rfl).trans ?_
  refine (r_bipush (v := (10 : Int32)) (show decode (zb m_Reader_readNumber) 42 = .ok (.bipush (10), 2) from by decide +kernel) (by decide)).trans ?_
  refine (r_imul (show decode (zb m_Reader_readNumber) 44 = .ok (.imul, 1) from by decide +kernel)).trans ?_
  refine (r_aloadn 0 (show decode (zb m_Reader_readNumber) 45 = .ok (.aload_n 0, 1) from by decide +kernel) rfl).trans ?_
  refine (r_aloadn 0 (show decode (zb m_Reader_readNumber) 46 = .ok (.aload_n 0, 1) from by decide +kernel) rfl).trans ?_
  refine (r_getI (show decode (zb m_Reader_readNumber) 47 = .ok (.getfield 19, 3) from by decide +kernel) rfl rfl h1).trans ?_
  exact r_virt (args := [.int (gI σ a0 2)]) (rest := [.int (x4 * (10 : Int32)), .int ((100000 : Int32))]) (show decode (zb m_Reader_readNumber) 50 = .ok (.invokevirtual 37, 3) from by decide +kernel) rfl rfl rfl h1
theorem b_Reader_readNumber_53 {C : CF} {d : Nat} {σ : HP} {s0 : Int32} {s1 : Int32} {s2 : Int32} {a0 : Nat} {l1 : Option Value} {l2 : Option Value} {l3 : Option Value} {l4 : Option Value} (h1 : a0 % 64 = 7) : runF C d m_Reader_readNumber (53, [some (.ref a0), l1, l2, l3, l4], [.int s0, .int s1, .int s2], σ) = runF C d m_Reader_readNumber (13, [some (.ref a0), l1, l2, l3, some (.int (p_min s2 ((s1 + s0) - (48 : Int32))))], [], wI σ a0 2 ((gI σ a0 2) + (1 : Int32))) := by
  refine (r_iadd (show decode (zb m_Reader_readNumber) 53 = .ok (.iadd, 1) from by decide +kernel)).trans ?_
  refine (r_bipush (v := (48 : Int32)) (show decode (zb m_Reader_readNumber) 54 = .ok (.bipush (48), 2) from by decide +kernel) (by decide)).trans ?_
  refine (r_isub (show decode (zb m_Reader_readNumber) 56 = .ok (.isub, 1) from by decide +kernel)).trans ?_
  refine (r_min (show decode (zb m_Reader_readNumber) 57 = .ok (.invokestatic 31, 3) from by decide +kernel) rfl rfl).trans ?_
  refine (r_istore 4 (show decode (zb m_Reader_readNumber) 60 = .ok (.istore 4, 2) from by decide +kernel) rfl).trans ?_
  refine (r_aloadn 0 (show decode (zb m_Reader_readNumber) 62 = .ok (.aload_n 0, 1) from by decide +kernel) rfl).trans ?_
  refine (r_dupR (show decode (zb m_Reader_readNumber) 63 = .ok (.dup, 1) from by decide +kernel)).trans ?_
  refine (r_getI (show decode (zb m_Reader_readNumber) 64 = .ok (.getfield 19, 3) from by decide +kernel) rfl rfl h1).trans ?_
  refine (r_iconst (v := (1 : Int32)) (show decode (zb m_Reader_readNumber) 67 = .ok (.iconst (1), 1) from by decide +kernel) (by decide)).trans ?_
  refine (r_iadd (show decode (zb m_Reader_readNumber) 68 = .ok (.iadd, 1) from by decide +kernel)).trans ?_
  refine (r_putI (show decode (zb m_Reader_readNumber) 69 = .ok (.putfield 19, 3) from by decide +kernel) rfl rfl rfl h1).trans ?_
  exact r_goto 13 (show decode (zb m_Reader_readNumber) 72 = .ok (.goto (-59), 3) from by decide +kernel) rfl
theorem b_Reader_readNumber_75 {C : CF} {d : Nat} {σ : HP} {a0 : Nat} {x3 : Int32} {l1 : Option Value} {l2 : Option Value} {l4 : Option Value} (h1 : a0 % 64 = 7) : runF C d m_Reader_readNumber (75, [some (.ref a0), l1, l2, some (.int x3), l4], [], σ) = if ¬ (gI σ a0 2) = x3 then runF C d m_Reader_readNumber (92, [some (.ref a0), l1, l2, some (.int x3), l4], [], σ) else runF C d m_Reader_readNumber (83, [some (.ref a0), l1, l2, some (.int x3), l4], [], σ) := by
  refine (r_aloadn 0 (show decode (zb m_Reader_readNumber) 75 = .ok (.aload_n 0, 1) from by decide +kernel) rfl).trans ?_
  refine (r_getI (show decode (zb m_Reader_readNumber) 76 = .ok (.getfield 19, 3) from by decide +kernel) rfl rfl h1).trans ?_
  refine (r_iloadn 3 (show decode (zb m_Reader_readNumber) 79 = .ok (.iload_n 3, 1) from by decide +kernel) rfl).trans ?_
  exact r_icmp_ne 92 (show decode (zb m_Reader_readNumber) 80 = .ok (.if_icmp .ne (12), 3) from by decide +kernel) rfl
theorem b_Reader_readNumber_83 {C : CF} {d : Nat} {σ : HP} {a0 : Nat} {x3 : Int32} {l1 : Option Value} {l2 : Option Value} {l4 : Option Value} (h1 : a0 % 64 = 7) : runF C d m_Reader_readNumber (83, [some (.ref a0), l1, l2, some (.int x3), l4], [], σ) = bk C d m_Reader_readNumber 86 [some (.ref a0), l1, l2, some (.int x3), l4] [] (C m_Reader_blame [.ref a0, .int ((1 : Int32)), .int x3] σ) := by
  refine (r_aloadn 0 (show decode (zb m_Reader_readNumber) 83 = .ok (.aload_n 0, 1) from by decide +kernel) rfl).trans ?_
  refine (r_iconst (v := (1 : Int32)) (show decode (zb m_Reader_readNumber) 84 = .ok (.iconst (1), 1) from by decide +kernel) (by decide)).trans ?_
  refine (r_iloadn 3 (show decode (zb m_Reader_readNumber) 85 = .ok (.iload_n 3, 1) from by decide +kernel) rfl).trans ?_
  exact r_virt (args := [.int ((1 : Int32)), .int x3]) (rest := []) (show decode (zb m_Reader_readNumber) 86 = .ok (.invokevirtual 45, 3) from by decide +kernel) rfl rfl rfl h1
theorem b_Reader_readNumber_89 {C : CF} {d : Nat} {σ : HP} {l0 : Option Value} {l1 : Option Value} {l2 : Option Value} {l3 : Option Value} {l4 : Option Value}  : runF C d m_Reader_readNumber (89, [l0, l1, l2, l3, l4], [], σ) = runF C d m_Reader_readNumber (110, [l0, l1, l2, l3, l4], [], σ) := by
  exact r_goto 110 (show decode (zb m_Reader_readNumber) 89 = .ok (.goto (21), 3) from by decide +kernel) rfl
theorem b_Reader_readNumber_92 {C : CF} {d : Nat} {σ : HP} {x4 : Int32} {x1 : Int32} {l0 : Option Value} {l2 : Option Value} {l3 : Option Value}  : runF C d m_Reader_readNumber (92, [l0, some (.int x1), l2, l3, some (.int x4)], [], σ) = if x4 < x1 then runF C d m_Reader_readNumber (104, [l0, some (.int x1), l2, l3, some (.int x4)], [], σ) else runF C d m_Reader_readNumber (98, [l0, some (.int x1), l2, l3, some (.int x4)], [], σ) := by
  refine (r_iload 4 (show decode (zb m_Reader_readNumber) 92 = .ok (.iload 4, 2) from by decide +kernel) rfl).trans ?_
  refine (r_iloadn 1 (show decode (zb m_Reader_readNumber) 94 = .ok (.iload_n 1, 1) from by decide +kernel) rfl).trans ?_
  exact r_icmp_lt 104 (show decode (zb m_Reader_readNumber) 95 = .ok (.if_icmp .lt (9), 3) from by decide +kernel) rfl
theorem b_Reader_readNumber_98 {C : CF} {d : Nat} {σ : HP} {x4 : Int32} {x2 : Int32} {l0 : Option Value} {l1 : Option Value} {l3 : Option Value}  : runF C d m_Reader_readNumber (98, [l0, l1, some (.int x2), l3, some (.int x4)], [], σ) = if x4 ≤ x2 then runF C d m_Reader_readNumber (110, [l0, l1, some (.int x2), l3, some (.int x4)], [], σ) else runF C d m_Reader_readNumber (104, [l0, l1, some (.int x2), l3, some (.int x4)], [], σ) := by
  refine (r_iload 4 (show decode (zb m_Reader_readNumber) 98 = .ok (.iload 4, 2) from by decide +kernel) rfl).trans ?_
  refine (r_iloadn 2 (show decode (zb m_Reader_readNumber) 100 = .ok (.iload_n 2, 1) from by decide +kernel) rfl).trans ?_
  exact r_icmp_le 110 (show decode (zb m_Reader_readNumber) 101 = .ok (.if_icmp .le (9), 3) from by decide +kernel) rfl
theorem b_Reader_readNumber_104 {C : CF} {d : Nat} {σ : HP} {a0 : Nat} {x3 : Int32} {l1 : Option Value} {l2 : Option Value} {l4 : Option Value} (h1 : a0 % 64 = 7) : runF C d m_Reader_readNumber (104, [some (.ref a0), l1, l2, some (.int x3), l4], [], σ) = bk C d m_Reader_readNumber 107 [some (.ref a0), l1, l2, some (.int x3), l4] [] (C m_Reader_blame [.ref a0, .int ((2 : Int32)), .int x3] σ) := by
  refine (r_aloadn 0 (show decode (zb m_Reader_readNumber) 104 = .ok (.aload_n 0, 1) from by decide +kernel) rfl).trans ?_
  refine (r_iconst (v := (2 : Int32)) (show decode (zb m_Reader_readNumber) 105 = .ok (.iconst (2), 1) from by decide +kernel) (by decide)).trans ?_
  refine (r_iloadn 3 (show decode (zb m_Reader_readNumber) 106 = .ok (.iload_n 3, 1) from by decide +kernel) rfl).trans ?_
  exact r_virt (args := [.int ((2 : Int32)), .int x3]) (rest := []) (show decode (zb m_Reader_readNumber) 107 = .ok (.invokevirtual 45, 3) from by decide +kernel) rfl rfl rfl h1
theorem b_Reader_readNumber_110 {C : CF} {d : Nat} {σ : HP} {x4 : Int32} {l0 : Option Value} {l1 : Option Value} {l2 : Option Value} {l3 : Option Value}  : runF C d m_Reader_readNumber (110, [l0, l1, l2, l3, some (.int x4)], [], σ) = some (.inl (some (.int x4)), σ) := by
  refine (r_iload 4 (show decode (zb m_Reader_readNumber) 110 = .ok (.iload 4, 2) from by decide +kernel) rfl).trans ?_
  exact r_iret (show decode (zb m_Reader_readNumber) 112 = .ok (.ireturn, 1) from by decide +kernel) rfl rfl
theorem e_Reader_isDigit {d : Nat} {σ : HP} {x0 : Int32} : callF (d + 1) m_Reader_isDigit [.int x0] σ = runF (callF d) d m_Reader_isDigit (0, [some (.int x0)], [], σ) := callF_in rfl rfl
theorem b_Reader_isDigit_0 {C : CF} {d : Nat} {σ : HP} {x0 : Int32}  : runF C d m_Reader_isDigit (0, [some (.int x0)], [], σ) = if x0 < (48 : Int32) then runF C d m_Reader_isDigit (16, [some (.int x0)], [], σ) else runF C d m_Reader_isDigit (6, [some (.int x0)], [], σ) := by
  refine (r_iloadn 0 (show decode (zb m_Reader_isDigit) 0 = .ok (.iload_n 0, 1) from by decide +kernel) rfl).trans ?_
  refine (r_bipush (v := (48 : Int32)) (show decode (zb m_Reader_isDigit) 1 = .ok (.bipush (48), 2) from by decide +kernel) (by decide)).trans ?_
  exact r_icmp_lt 16 (show decode (zb m_Reader_isDigit) 3 = .ok (.if_icmp .lt (13), 3) from by decide +kernel) rfl
theorem b_Reader_isDigit_6 {C : CF} {d : Nat} {σ : HP} {x0 : Int32}  : runF C d m_Reader_isDigit (6, [some (.int x0)], [], σ) = if (57 : Int32) < x0 then runF C d m_Reader_isDigit (16, [some (.int x0)], [], σ) else runF C d m_Reader_isDigit (12, [some (.int x0)], [], σ) := by
  refine (r_iloadn 0 (show decode (zb m_Reader_isDigit) 6 = .ok (.iload_n 0, 1) from by decide +kernel) rfl).trans ?_
  refine (r_bipush (v := (57 : Int32)) (show decode (zb m_Reader_isDigit) 7 = .ok (.bipush (57), 2) from by decide +kernel) (by decide)).trans ?_
  exact r_icmp_gt 16 (show decode (zb m_Reader_isDigit) 9 = .ok (.if_icmp .gt (7), 3) from by decide +kernel) rfl
theorem b_Reader_isDigit_12 {C : CF} {d : Nat} {σ : HP} {l0 : Option Value}  : runF C d m_Reader_isDigit (12, [l0], [], σ) = runF C d m_Reader_isDigit (17, [l0], [.int ((1 : Int32))], σ) := by
  refine (r_iconst (v := (1 : Int32)) (show decode (zb m_Reader_isDigit) 12 = .ok (.iconst (1), 1) from by decide +kernel) (by decide)).trans ?_
  exact r_goto 17 (show decode (zb m_Reader_isDigit) 13 = .ok (.goto (4), 3) from by decide +kernel) rfl
theorem b_Reader_isDigit_16 {C : CF} {d : Nat} {σ : HP} {l0 : Option Value}  : runF C d m_Reader_isDigit (16, [l0], [], σ) = runF C d m_Reader_isDigit (17, [l0], [.int ((0 : Int32))], σ) := by
  exact r_iconst (v := (0 : Int32)) (show decode (zb m_Reader_isDigit) 16 = .ok (.iconst (0), 1) from by decide +kernel) (by decide)
theorem b_Reader_isDigit_17 {C : CF} {d : Nat} {σ : HP} {s0 : Int32} {l0 : Option Value} (h1 : s0 = 0 ∨ s0 = 1) : runF C d m_Reader_isDigit (17, [l0], [.int s0], σ) = some (.inl (some (.int s0)), σ) := by
  exact r_bret (show decode (zb m_Reader_isDigit) 17 = .ok (.ireturn, 1) from by decide +kernel) rfl h1
theorem e_Reader_needSign {d : Nat} {σ : HP} {a0 : Nat} {x1 : Int32} : callF (d + 1) m_Reader_needSign [.ref a0, .int x1] σ = runF (callF d) d m_Reader_needSign (0, [some (.ref a0), some (.int x1)], [], σ) := callF_in rfl rfl
theorem b_Reader_needSign_0 {C : CF} {d : Nat} {σ : HP} {a0 : Nat} {l1 : Option Value} (h1 : a0 % 64 = 7) : runF C d m_Reader_needSign (0, [some (.ref a0), l1], [], σ) = bk C d m_Reader_needSign 1 [some (.ref a0), l1] [] (C m_Reader_peek [.ref a0] σ) := by
  refine (r_aloadn 0 (show decode (zb m_Reader_needSign) 0 = .ok (.aload_n 0, 1) from by decide +kernel) rfl).trans ?_
  exact r_virt (args := []) (rest := []) (show decode (zb m_Reader_needSign) 1 = .ok (.invokevirtual 41, 3) from by decide +kernel) rfl rfl rfl h1
theorem b_Reader_needSign_4 {C : CF} {d : Nat} {σ : HP} {s0 : Int32} {x1 : Int32} {l0 : Option Value}  : runF C d m_Reader_needSign (4, [l0, some (.int x1)], [.int s0], σ) = if ¬ s0 = x1 then runF C d m_Reader_needSign (21, [l0, some (.int x1)], [], σ) else runF C d m_Reader_needSign (8, [l0, some (.int x1)], [], σ) := by
  refine (r_iloadn 1 (show decode (zb m_Reader_needSign) 4 = .ok (.iload_n 1, 1) from by decide +kernel) rfl).trans ?_
  exact r_icmp_ne 21 (show decode (zb m_Reader_needSign) 5 = .ok (.if_icmp .ne (16), 3) from by decide +kernel) rfl
theorem b_Reader_needSign_8 {C : CF} {d : Nat} {σ : HP} {a0 : Nat} {l1 : Option Value} (h1 : a0 % 64 = 7) : runF C d m_Reader_needSign (8, [some (.ref a0), l1], [], σ) = runF C d m_Reader_needSign (30, [some (.ref a0), l1], [], wI σ a0 2 ((gI σ a0 2) + (1 : Int32))) := by
  refine (r_aloadn 0 (show decode (zb m_Reader_needSign) 8 = .ok (.aload_n 0, 1) from by decide +kernel) rfl).trans ?_
  refine (r_dupR (show decode (zb m_Reader_needSign) 9 = .ok (.dup, 1) from by decide +kernel)).trans ?_
  refine (r_getI (show decode (zb m_Reader_needSign) 10 = .ok (.getfield 19, 3) from by decide +kernel) rfl rfl h1).trans ?_
  refine (r_iconst (v := (1 : Int32)) (show decode (zb m_Reader_needSign) 13 = .ok (.iconst (1), 1) from by decide +kernel) (by decide)).trans ?_
  refine (r_iadd (show decode (zb m_Reader_needSign) 14 = .ok (.iadd, 1) from by decide +kernel)).trans ?_
  refine (r_putI (show decode (zb m_Reader_needSign) 15 = .ok (.putfield 19, 3) from by decide +kernel) rfl rfl rfl h1).trans ?_
  exact r_goto 30 (show decode (zb m_Reader_needSign) 18 = .ok (.goto (12), 3) from by decide +kernel) rfl
theorem b_Reader_needSign_21 {C : CF} {d : Nat} {σ : HP} {a0 : Nat} {l1 : Option Value} (h1 : a0 % 64 = 7) : runF C d m_Reader_needSign (21, [some (.ref a0), l1], [], σ) = bk C d m_Reader_needSign 27 [some (.ref a0), l1] [] (C m_Reader_blame [.ref a0, .int ((1 : Int32)), .int (gI σ a0 2)] σ) := by
  refine (r_aloadn 0 (show decode (zb m_Reader_needSign) 21 = .ok (.aload_n 0, 1) from by decide +kernel) rfl).trans ?_
  refine (r_iconst (v := (1 : Int32)) (show decode (zb m_Reader_needSign) 22 = .ok (.iconst (1), 1) from by decide +kernel) (by decide)).trans ?_
  refine (r_aloadn 0 (show decode (zb m_Reader_needSign) 23 = .ok (.aload_n 0, 1) from by decide +kernel) rfl).trans ?_
  refine (r_getI (show decode (zb m_Reader_needSign) 24 = .ok (.getfield 19, 3) from by decide +kernel) rfl rfl h1).trans ?_
  exact r_virt (args := [.int ((1 : Int32)), .int (gI σ a0 2)]) (rest := []) (show decode (zb m_Reader_needSign) 27 = .ok (.invokevirtual 45, 3) from by decide +kernel) rfl rfl rfl h1
theorem b_Reader_needSign_30 {C : CF} {d : Nat} {σ : HP} {l0 : Option Value} {l1 : Option Value}  : runF C d m_Reader_needSign (30, [l0, l1], [], σ) = some (.inl none, σ) := by
  exact r_vret (show decode (zb m_Reader_needSign) 30 = .ok (.return_, 1) from by decide +kernel) rfl
theorem e_Reader_needEnd {d : Nat} {σ : HP} {a0 : Nat} : callF (d + 1) m_Reader_needEnd [.ref a0] σ = runF (callF d) d m_Reader_needEnd (0, [some (.ref a0)], [], σ) := callF_in rfl rfl
theorem b_Reader_needEnd_0 {C : CF} {d : Nat} {σ : HP} {a0 : Nat} (h1 : a0 % 64 = 7) : runF C d m_Reader_needEnd (0, [some (.ref a0)], [], σ) = bk C d m_Reader_needEnd 1 [some (.ref a0)] [] (C m_Reader_peek [.ref a0] σ) := by
  refine (r_aloadn 0 (show decode (zb m_Reader_needEnd) 0 = .ok (.aload_n 0, 1) from by decide +kernel) rfl).trans ?_
  exact r_virt (args := []) (rest := []) (show decode (zb m_Reader_needEnd) 1 = .ok (.invokevirtual 41, 3) from by decide +kernel) rfl rfl rfl h1
theorem b_Reader_needEnd_4 {C : CF} {d : Nat} {σ : HP} {s0 : Int32} {l0 : Option Value}  : runF C d m_Reader_needEnd (4, [l0], [.int s0], σ) = if s0 = (-1 : Int32) then runF C d m_Reader_needEnd (17, [l0], [], σ) else runF C d m_Reader_needEnd (8, [l0], [], σ) := by
  refine (r_iconst (v := (-1 : Int32)) (show decode (zb m_Reader_needEnd) 4 = .ok (.iconst (-1), 1) from by decide +kernel) (by decide)).trans ?_
  exact r_icmp_eq 17 (show decode (zb m_Reader_needEnd) 5 = .ok (.if_icmp .eq (12), 3) from by decide +kernel) rfl
theorem b_Reader_needEnd_8 {C : CF} {d : Nat} {σ : HP} {a0 : Nat} (h1 : a0 % 64 = 7) : runF C d m_Reader_needEnd (8, [some (.ref a0)], [], σ) = bk C d m_Reader_needEnd 14 [some (.ref a0)] [] (C m_Reader_blame [.ref a0, .int ((1 : Int32)), .int (gI σ a0 2)] σ) := by
  refine (r_aloadn 0 (show decode (zb m_Reader_needEnd) 8 = .ok (.aload_n 0, 1) from by decide +kernel) rfl).trans ?_
  refine (r_iconst (v := (1 : Int32)) (show decode (zb m_Reader_needEnd) 9 = .ok (.iconst (1), 1) from by decide +kernel) (by decide)).trans ?_
  refine (r_aloadn 0 (show decode (zb m_Reader_needEnd) 10 = .ok (.aload_n 0, 1) from by decide +kernel) rfl).trans ?_
  refine (r_getI (show decode (zb m_Reader_needEnd) 11 = .ok (.getfield 19, 3) from by decide +kernel) rfl rfl h1).trans ?_
  exact r_virt (args := [.int ((1 : Int32)), .int (gI σ a0 2)]) (rest := []) (show decode (zb m_Reader_needEnd) 14 = .ok (.invokevirtual 45, 3) from by decide +kernel) rfl rfl rfl h1
theorem b_Reader_needEnd_17 {C : CF} {d : Nat} {σ : HP} {l0 : Option Value}  : runF C d m_Reader_needEnd (17, [l0], [], σ) = some (.inl none, σ) := by
  exact r_vret (show decode (zb m_Reader_needEnd) 17 = .ok (.return_, 1) from by decide +kernel) rfl
theorem e_Scales_init {d : Nat} {σ : HP} {a0 : Nat} : callF (d + 1) m_Scales_init [.ref a0] σ = runF (callF d) d m_Scales_init (0, [some (.ref a0)], [], σ) := callF_in rfl rfl
theorem b_Scales_init_0 {C : CF} {d : Nat} {σ : HP} {a0 : Nat} (h1 : a0 % 64 = 8) : runF C d m_Scales_init (0, [some (.ref a0)], [], σ) = some (.inl none, wR (hA (wR (hA (wR (hA (wR (hA σ 28 128) a0 0 (some (28 + 64 * hN σ))) 28 128) a0 1 (some (28 + 64 * (hN σ + 1)))) 22 8) a0 2 (some (22 + 64 * (hN σ + 2)))) 35 13) a0 3 (some (35 + 64 * (hN σ + 3)))) := by
  refine (r_aloadn 0 (show decode (zb m_Scales_init) 0 = .ok (.aload_n 0, 1) from by decide +kernel) rfl).trans ?_
  refine (r_obj (show decode (zb m_Scales_init) 1 = .ok (.invokespecial 3, 3) from by decide +kernel) rfl (by have := h1; omega) rfl).trans ?_
  refine (r_aloadn 0 (show decode (zb m_Scales_init) 4 = .ok (.aload_n 0, 1) from by decide +kernel) rfl).trans ?_
  refine (r_sipush (v := (128 : Int32)) (show decode (zb m_Scales_init) 5 = .ok (.sipush (128), 3) from by decide +kernel) (by decide)).trans ?_
  refine (r_arrI (k := 28) (show decode (zb m_Scales_init) 8 = .ok (.newarray .int, 2) from by decide +kernel) (by decide) (by decide)).trans ?_
  refine (r_putR (show decode (zb m_Scales_init) 10 = .ok (.putfield 9, 3) from by decide +kernel) rfl rfl rfl h1).trans ?_
  refine (r_aloadn 0 (show decode (zb m_Scales_init) 13 = .ok (.aload_n 0, 1) from by decide +kernel) rfl).trans ?_
  refine (r_sipush (v := (128 : Int32)) (show decode (zb m_Scales_init) 14 = .ok (.sipush (128), 3) from by decide +kernel) (by decide)).trans ?_
  refine (r_arrI (k := 28) (show decode (zb m_Scales_init) 17 = .ok (.newarray .int, 2) from by decide +kernel) (by decide) (by decide)).trans ?_
  refine (r_putR (show decode (zb m_Scales_init) 19 = .ok (.putfield 15, 3) from by decide +kernel) rfl rfl rfl h1).trans ?_
  refine (r_aloadn 0 (show decode (zb m_Scales_init) 22 = .ok (.aload_n 0, 1) from by decide +kernel) rfl).trans ?_
  refine (r_bipush (v := (8 : Int32)) (show decode (zb m_Scales_init) 23 = .ok (.bipush (8), 2) from by decide +kernel) (by decide)).trans ?_
  refine (r_arrI (k := 22) (show decode (zb m_Scales_init) 25 = .ok (.newarray .int, 2) from by decide +kernel) (by decide) (by decide)).trans ?_
  refine (r_putR (show decode (zb m_Scales_init) 27 = .ok (.putfield 18, 3) from by decide +kernel) rfl rfl rfl h1).trans ?_
  refine (r_aloadn 0 (show decode (zb m_Scales_init) 30 = .ok (.aload_n 0, 1) from by decide +kernel) rfl).trans ?_
  refine (r_bipush (v := (13 : Int32)) (show decode (zb m_Scales_init) 31 = .ok (.bipush (13), 2) from by decide +kernel) (by decide)).trans ?_
  refine (r_arrJ (k := 35) (show decode (zb m_Scales_init) 33 = .ok (.newarray .long, 2) from by decide +kernel) (by decide) (by decide)).trans ?_
  refine (r_putR (show decode (zb m_Scales_init) 35 = .ok (.putfield 21, 3) from by decide +kernel) rfl rfl rfl h1).trans ?_
  exact r_vret (show decode (zb m_Scales_init) 38 = .ok (.return_, 1) from by decide +kernel) rfl
theorem e_Scales_mostRides {d : Nat} {σ : HP} {a0 : Nat} {a1 : Nat} : callF (d + 1) m_Scales_mostRides [.ref a0, .ref a1] σ = runF (callF d) d m_Scales_mostRides (0, [some (.ref a0), some (.ref a1), none, none], [], σ) := callF_in rfl rfl
theorem b_Scales_mostRides_0 {C : CF} {d : Nat} {σ : HP} {a1 : Nat} {l0 : Option Value} {l2 : Option Value} {l3 : Option Value} (h1 : a1 % 64 = 5) (h2 : (gR σ a1 0).isSome = true) (h3 : (dr (gR σ a1 0)) % 64 = 2) : runF C d m_Scales_mostRides (0, [l0, some (.ref a1), l2, l3], [], σ) = runF C d m_Scales_mostRides (12, [l0, some (.ref a1), some (.int (p_shl (1 : Int32) (gI σ (dr (gR σ a1 0)) 1))), some (.int ((0 : Int32)))], [], σ) := by
  refine (r_iconst (v := (1 : Int32)) (show decode (zb m_Scales_mostRides) 0 = .ok (.iconst (1), 1) from by decide +kernel) (by decide)).trans ?_
  refine (r_aloadn 1 (show decode (zb m_Scales_mostRides) 1 = .ok (.aload_n 1, 1) from by decide +kernel) rfl).trans ?_
  refine (r_getR (show decode (zb m_Scales_mostRides) 2 = .ok (.getfield 25, 3) from by decide +kernel) rfl rfl h1 h2).trans ?_
  refine (r_getI (show decode (zb m_Scales_mostRides) 5 = .ok (.getfield 31, 3) from by decide +kernel) rfl rfl h3).trans ?_
  refine (r_ishl (show decode (zb m_Scales_mostRides) 8 = .ok (.ishl, 1) from by decide +kernel)).trans ?_
  refine (r_istoren 2 (show decode (zb m_Scales_mostRides) 9 = .ok (.istore_n 2, 1) from by decide +kernel) rfl).trans ?_
  refine (r_iconst (v := (0 : Int32)) (show decode (zb m_Scales_mostRides) 10 = .ok (.iconst (0), 1) from by decide +kernel) (by decide)).trans ?_
  exact r_istoren 3 (show decode (zb m_Scales_mostRides) 11 = .ok (.istore_n 3, 1) from by decide +kernel) rfl
theorem b_Scales_mostRides_12 {C : CF} {d : Nat} {σ : HP} {x3 : Int32} {x2 : Int32} {l0 : Option Value} {l1 : Option Value}  : runF C d m_Scales_mostRides (12, [l0, l1, some (.int x2), some (.int x3)], [], σ) = if x2 ≤ x3 then runF C d m_Scales_mostRides (36, [l0, l1, some (.int x2), some (.int x3)], [], σ) else runF C d m_Scales_mostRides (17, [l0, l1, some (.int x2), some (.int x3)], [], σ) := by
  refine (r_iloadn 3 (show decode (zb m_Scales_mostRides) 12 = .ok (.iload_n 3, 1) from by decide +kernel) rfl).trans ?_
  refine (r_iloadn 2 (show decode (zb m_Scales_mostRides) 13 = .ok (.iload_n 2, 1) from by decide +kernel) rfl).trans ?_
  exact r_icmp_ge 36 (show decode (zb m_Scales_mostRides) 14 = .ok (.if_icmp .ge (22), 3) from by decide +kernel) rfl
theorem b_Scales_mostRides_17 {C : CF} {d : Nat} {σ : HP} {a0 : Nat} {x3 : Int32} {a1 : Nat} {l2 : Option Value} (h1 : a0 % 64 = 8) (h2 : (gR σ a0 0).isSome = true) (h3 : a1 % 64 = 5) : runF C d m_Scales_mostRides (17, [some (.ref a0), some (.ref a1), l2, some (.int x3)], [], σ) = bk C d m_Scales_mostRides 24 [some (.ref a0), some (.ref a1), l2, some (.int x3)] [.int x3, .ref (dr (gR σ a0 0))] (C m_Lift_heavyOfSet [.ref a1, .int x3] σ) := by
  refine (r_aloadn 0 (show decode (zb m_Scales_mostRides) 17 = .ok (.aload_n 0, 1) from by decide +kernel) rfl).trans ?_
  refine (r_getR (show decode (zb m_Scales_mostRides) 18 = .ok (.getfield 9, 3) from by decide +kernel) rfl rfl h1 h2).trans ?_
  refine (r_iloadn 3 (show decode (zb m_Scales_mostRides) 21 = .ok (.iload_n 3, 1) from by decide +kernel) rfl).trans ?_
  refine (r_aloadn 1 (show decode (zb m_Scales_mostRides) 22 = .ok (.aload_n 1, 1) from by decide +kernel) rfl).trans ?_
  refine (r_iloadn 3 (show decode (zb m_Scales_mostRides) 23 = .ok (.iload_n 3, 1) from by decide +kernel) rfl).trans ?_
  exact r_virt (args := [.int x3]) (rest := [.int x3, .ref (dr (gR σ a0 0))]) (show decode (zb m_Scales_mostRides) 24 = .ok (.invokevirtual 37, 3) from by decide +kernel) rfl rfl rfl h3
theorem b_Scales_mostRides_27 {C : CF} {d : Nat} {σ : HP} {s0 : Int32} {s1 : Int32} {r2 : Nat} {l0 : Option Value} {l1 : Option Value} {l2 : Option Value} {l3 : Option Value}  : runF C d m_Scales_mostRides (27, [l0, l1, l2, l3], [.int s0, .int s1, .ref r2], σ) = bkN C d m_Scales_mostRides 27 [l0, l1, l2, l3] [] (C m_PL_put [.ref r2, .int s1, .int s0] σ) := by
  exact r_stat (args := [.ref r2, .int s1, .int s0]) (rest := []) (show decode (zb m_Scales_mostRides) 27 = .ok (.invokestatic 41, 3) from by decide +kernel) rfl (by decide) rfl rfl
theorem b_Scales_mostRides_30 {C : CF} {d : Nat} {σ : HP} {x3 : Int32} {l0 : Option Value} {l1 : Option Value} {l2 : Option Value}  : runF C d m_Scales_mostRides (30, [l0, l1, l2, some (.int x3)], [], σ) = runF C d m_Scales_mostRides (12, [l0, l1, l2, some (.int (x3 + (1 : Int32)))], [], σ) := by
  refine (r_iinc 3 (v := (1 : Int32)) (show decode (zb m_Scales_mostRides) 30 = .ok (.iinc 3 (1), 3) from by decide +kernel) rfl rfl (by decide)).trans ?_
  exact r_goto 12 (show decode (zb m_Scales_mostRides) 33 = .ok (.goto (-21), 3) from by decide +kernel) rfl
theorem b_Scales_mostRides_36 {C : CF} {d : Nat} {σ : HP} {l0 : Option Value} {l1 : Option Value} {l2 : Option Value} {l3 : Option Value}  : runF C d m_Scales_mostRides (36, [l0, l1, l2, l3], [], σ) = runF C d m_Scales_mostRides (38, [l0, l1, l2, some (.int ((0 : Int32)))], [], σ) := by
  refine (r_iconst (v := (0 : Int32)) (show decode (zb m_Scales_mostRides) 36 = .ok (.iconst (0), 1) from by decide +kernel) (by decide)).trans ?_
  exact r_istoren 3 (show decode (zb m_Scales_mostRides) 37 = .ok (.istore_n 3, 1) from by decide +kernel) rfl
theorem b_Scales_mostRides_38 {C : CF} {d : Nat} {σ : HP} {x3 : Int32} {x2 : Int32} {l0 : Option Value} {l1 : Option Value}  : runF C d m_Scales_mostRides (38, [l0, l1, some (.int x2), some (.int x3)], [], σ) = if x2 ≤ x3 then runF C d m_Scales_mostRides (69, [l0, l1, some (.int x2), some (.int x3)], [], σ) else runF C d m_Scales_mostRides (43, [l0, l1, some (.int x2), some (.int x3)], [], σ) := by
  refine (r_iloadn 3 (show decode (zb m_Scales_mostRides) 38 = .ok (.iload_n 3, 1) from by decide +kernel) rfl).trans ?_
  refine (r_iloadn 2 (show decode (zb m_Scales_mostRides) 39 = .ok (.iload_n 2, 1) from by decide +kernel) rfl).trans ?_
  exact r_icmp_ge 69 (show decode (zb m_Scales_mostRides) 40 = .ok (.if_icmp .ge (29), 3) from by decide +kernel) rfl
theorem b_Scales_mostRides_43 {C : CF} {d : Nat} {σ : HP} {a0 : Nat} {x3 : Int32} {a1 : Nat} {l2 : Option Value} (h1 : a0 % 64 = 8) (h2 : (gR σ a0 1).isSome = true) (h3 : a1 % 64 = 5) (h4 : (gR σ a1 0).isSome = true) (h5 : (dr (gR σ a1 0)) % 64 = 2) : runF C d m_Scales_mostRides (43, [some (.ref a0), some (.ref a1), l2, some (.int x3)], [], σ) = bk C d m_Scales_mostRides 57 [some (.ref a0), some (.ref a1), l2, some (.int x3)] [.int x3, .ref (dr (gR σ a0 1))] (C m_Scales_mostRidesOf [.ref a0, .int x3, .int (gI σ (dr (gR σ a1 0)) 3)] σ) := by
  refine (r_aloadn 0 (show decode (zb m_Scales_mostRides) 43 = .ok (.aload_n 0, 1) from by decide +kernel) rfl).trans ?_
  refine (r_getR (show decode (zb m_Scales_mostRides) 44 = .ok (.getfield 15, 3) from by decide +kernel) rfl rfl h1 h2).trans ?_
  refine (r_iloadn 3 (show decode (zb m_Scales_mostRides) 47 = .ok (.iload_n 3, 1) from by decide +kernel) rfl).trans ?_
  refine (r_aloadn 0 (show decode (zb m_Scales_mostRides) 48 = .ok (.aload_n 0, 1) from by decide +kernel) rfl).trans ?_
  refine (r_iloadn 3 (show decode (zb m_Scales_mostRides) 49 = .ok (.iload_n 3, 1) from by decide +kernel) rfl).trans ?_
  refine (r_aloadn 1 (show decode (zb m_Scales_mostRides) 50 = .ok (.aload_n 1, 1) from by decide +kernel) rfl).trans ?_
  refine (r_getR (show decode (zb m_Scales_mostRides) 51 = .ok (.getfield 25, 3) from by decide +kernel) rfl rfl h3 h4).trans ?_
  refine (r_getI (show decode (zb m_Scales_mostRides) 54 = .ok (.getfield 45, 3) from by decide +kernel) rfl rfl h5).trans ?_
  exact r_virt (args := [.int x3, .int (gI σ (dr (gR σ a1 0)) 3)]) (rest := [.int x3, .ref (dr (gR σ a0 1))]) (show decode (zb m_Scales_mostRides) 57 = .ok (.invokevirtual 48, 3) from by decide +kernel) rfl rfl rfl h1
theorem b_Scales_mostRides_60 {C : CF} {d : Nat} {σ : HP} {s0 : Int32} {s1 : Int32} {r2 : Nat} {l0 : Option Value} {l1 : Option Value} {l2 : Option Value} {l3 : Option Value}  : runF C d m_Scales_mostRides (60, [l0, l1, l2, l3], [.int s0, .int s1, .ref r2], σ) = bkN C d m_Scales_mostRides 60 [l0, l1, l2, l3] [] (C m_PL_put [.ref r2, .int s1, .int s0] σ) := by
  exact r_stat (args := [.ref r2, .int s1, .int s0]) (rest := []) (show decode (zb m_Scales_mostRides) 60 = .ok (.invokestatic 41, 3) from by decide +kernel) rfl (by decide) rfl rfl
theorem b_Scales_mostRides_63 {C : CF} {d : Nat} {σ : HP} {x3 : Int32} {l0 : Option Value} {l1 : Option Value} {l2 : Option Value}  : runF C d m_Scales_mostRides (63, [l0, l1, l2, some (.int x3)], [], σ) = runF C d m_Scales_mostRides (38, [l0, l1, l2, some (.int (x3 + (1 : Int32)))], [], σ) := by
  refine (r_iinc 3 (v := (1 : Int32)) (show decode (zb m_Scales_mostRides) 63 = .ok (.iinc 3 (1), 3) from by decide +kernel) rfl rfl (by decide)).trans ?_
  exact r_goto 38 (show decode (zb m_Scales_mostRides) 66 = .ok (.goto (-28), 3) from by decide +kernel) rfl
theorem b_Scales_mostRides_69 {C : CF} {d : Nat} {σ : HP} {a0 : Nat} {x2 : Int32} {l1 : Option Value} {l3 : Option Value} (h1 : a0 % 64 = 8) (h2 : (gR σ a0 1).isSome = true) : runF C d m_Scales_mostRides (69, [some (.ref a0), l1, some (.int x2), l3], [], σ) = bkN C d m_Scales_mostRides 76 [some (.ref a0), l1, some (.int x2), l3] [] (C m_PL_at [.ref (dr (gR σ a0 1)), .int (x2 - (1 : Int32))] σ) := by
  refine (r_aloadn 0 (show decode (zb m_Scales_mostRides) 69 = .ok (.aload_n 0, 1) from by decide +kernel) rfl).trans ?_
  refine (r_getR (show decode (zb m_Scales_mostRides) 70 = .ok (.getfield 15, 3) from by decide +kernel) rfl rfl h1 h2).trans ?_
  refine (r_iloadn 2 (show decode (zb m_Scales_mostRides) 73 = .ok (.iload_n 2, 1) from by decide +kernel) rfl).trans ?_
  refine (r_iconst (v := (1 : Int32)) (show decode (zb m_Scales_mostRides) 74 = .ok (.iconst (1), 1) from by decide +kernel) (by decide)).trans ?_
  refine (r_isub (show decode (zb m_Scales_mostRides) 75 = .ok (.isub, 1) from by decide +kernel)).trans ?_
  exact r_stat (args := [.ref (dr (gR σ a0 1)), .int (x2 - (1 : Int32))]) (rest := []) (show decode (zb m_Scales_mostRides) 76 = .ok (.invokestatic 52, 3) from by decide +kernel) rfl (by decide) rfl rfl
theorem b_Scales_mostRides_79 {C : CF} {d : Nat} {σ : HP} {s0 : Int32} {l0 : Option Value} {l1 : Option Value} {l2 : Option Value} {l3 : Option Value}  : runF C d m_Scales_mostRides (79, [l0, l1, l2, l3], [.int s0], σ) = some (.inl (some (.int s0)), σ) := by
  exact r_iret (show decode (zb m_Scales_mostRides) 79 = .ok (.ireturn, 1) from by decide +kernel) rfl rfl
theorem e_Scales_mostRidesOf {d : Nat} {σ : HP} {a0 : Nat} {x1 : Int32} {x2 : Int32} : callF (d + 1) m_Scales_mostRidesOf [.ref a0, .int x1, .int x2] σ = runF (callF d) d m_Scales_mostRidesOf (0, [some (.ref a0), some (.int x1), some (.int x2), none, none, none], [], σ) := callF_in rfl rfl
theorem b_Scales_mostRidesOf_0 {C : CF} {d : Nat} {σ : HP} {x1 : Int32} {a0 : Nat} {l2 : Option Value} {l3 : Option Value} {l4 : Option Value} {l5 : Option Value} (h1 : a0 % 64 = 8) (h2 : (gR σ a0 1).isSome = true) : runF C d m_Scales_mostRidesOf (0, [some (.ref a0), some (.int x1), l2, l3, l4, l5], [], σ) = bkN C d m_Scales_mostRidesOf 12 [some (.ref a0), some (.int x1), l2, some (.int (x1 &&& (-x1))), l4, l5] [] (C m_PL_at [.ref (dr (gR σ a0 1)), .int (x1 ^^^ (x1 &&& (-x1)))] σ) := by
  refine (r_iloadn 1 (show decode (zb m_Scales_mostRidesOf) 0 = .ok (.iload_n 1, 1) from by decide +kernel) rfl).trans ?_
  refine (r_iloadn 1 (show decode (zb m_Scales_mostRidesOf) 1 = .ok (.iload_n 1, 1) from by decide +kernel) rfl).trans ?_
  refine (r_ineg (show decode (zb m_Scales_mostRidesOf) 2 = .ok (.ineg, 1) from by decide +kernel)).trans ?_
  refine (r_iand (show decode (zb m_Scales_mostRidesOf) 3 = .ok (.iand, 1) from by decide +kernel)).trans ?_
  refine (r_istoren 3 (show decode (zb m_Scales_mostRidesOf) 4 = .ok (.istore_n 3, 1) from by decide +kernel) rfl).trans ?_
  refine (r_aloadn 0 (show decode (zb m_Scales_mostRidesOf) 5 = .ok (.aload_n 0, 1) from by decide +kernel) rfl).trans ?_
  refine (r_getR (show decode (zb m_Scales_mostRidesOf) 6 = .ok (.getfield 15, 3) from by decide +kernel) rfl rfl h1 h2).trans ?_
  refine (r_iloadn 1 (show decode (zb m_Scales_mostRidesOf) 9 = .ok (.iload_n 1, 1) from by decide +kernel) rfl).trans ?_
  refine (r_iloadn 3 (show decode (zb m_Scales_mostRidesOf) 10 = .ok (.iload_n 3, 1) from by decide +kernel) rfl).trans ?_
  refine (r_ixor (show decode (zb m_Scales_mostRidesOf) 11 = .ok (.ixor, 1) from by decide +kernel)).trans ?_
  exact r_stat (args := [.ref (dr (gR σ a0 1)), .int (x1 ^^^ (x1 &&& (-x1)))]) (rest := []) (show decode (zb m_Scales_mostRidesOf) 12 = .ok (.invokestatic 52, 3) from by decide +kernel) rfl (by decide) rfl rfl
theorem b_Scales_mostRidesOf_15 {C : CF} {d : Nat} {σ : HP} {s0 : Int32} {x1 : Int32} {l0 : Option Value} {l2 : Option Value} {l3 : Option Value} {l4 : Option Value} {l5 : Option Value}  : runF C d m_Scales_mostRidesOf (15, [l0, some (.int x1), l2, l3, l4, l5], [.int s0], σ) = runF C d m_Scales_mostRidesOf (20, [l0, some (.int x1), l2, l3, some (.int s0), some (.int x1)], [], σ) := by
  refine (r_istore 4 (show decode (zb m_Scales_mostRidesOf) 15 = .ok (.istore 4, 2) from by decide +kernel) rfl).trans ?_
  refine (r_iloadn 1 (show decode (zb m_Scales_mostRidesOf) 17 = .ok (.iload_n 1, 1) from by decide +kernel) rfl).trans ?_
  exact r_istore 5 (show decode (zb m_Scales_mostRidesOf) 18 = .ok (.istore 5, 2) from by decide +kernel) rfl
theorem b_Scales_mostRidesOf_20 {C : CF} {d : Nat} {σ : HP} {x5 : Int32} {l0 : Option Value} {l1 : Option Value} {l2 : Option Value} {l3 : Option Value} {l4 : Option Value}  : runF C d m_Scales_mostRidesOf (20, [l0, l1, l2, l3, l4, some (.int x5)], [], σ) = if x5 ≤ 0 then runF C d m_Scales_mostRidesOf (85, [l0, l1, l2, l3, l4, some (.int x5)], [], σ) else runF C d m_Scales_mostRidesOf (25, [l0, l1, l2, l3, l4, some (.int x5)], [], σ) := by
  refine (r_iload 5 (show decode (zb m_Scales_mostRidesOf) 20 = .ok (.iload 5, 2) from by decide +kernel) rfl).trans ?_
  exact r_if_le 85 (show decode (zb m_Scales_mostRidesOf) 22 = .ok (.ifCond .le (63), 3) from by decide +kernel) rfl
theorem b_Scales_mostRidesOf_25 {C : CF} {d : Nat} {σ : HP} {x5 : Int32} {x3 : Int32} {l0 : Option Value} {l1 : Option Value} {l2 : Option Value} {l4 : Option Value}  : runF C d m_Scales_mostRidesOf (25, [l0, l1, l2, some (.int x3), l4, some (.int x5)], [], σ) = if (x5 &&& x3) = 0 then runF C d m_Scales_mostRidesOf (74, [l0, l1, l2, some (.int x3), l4, some (.int x5)], [], σ) else runF C d m_Scales_mostRidesOf (32, [l0, l1, l2, some (.int x3), l4, some (.int x5)], [], σ) := by
  refine (r_iload 5 (show decode (zb m_Scales_mostRidesOf) 25 = .ok (.iload 5, 2) from by decide +kernel) rfl).trans ?_
  refine (r_iloadn 3 (show decode (zb m_Scales_mostRidesOf) 27 = .ok (.iload_n 3, 1) from by decide +kernel) rfl).trans ?_
  refine (r_iand (show decode (zb m_Scales_mostRidesOf) 28 = .ok (.iand, 1) from by decide +kernel)).trans ?_
  exact r_if_eq 74 (show decode (zb m_Scales_mostRidesOf) 29 = .ok (.ifCond .eq (45), 3) from by decide +kernel) rfl
theorem b_Scales_mostRidesOf_32 {C : CF} {d : Nat} {σ : HP} {x5 : Int32} {l0 : Option Value} {l1 : Option Value} {l2 : Option Value} {l3 : Option Value} {l4 : Option Value}  : runF C d m_Scales_mostRidesOf (32, [l0, l1, l2, l3, l4, some (.int x5)], [], σ) = bkN C d m_Scales_mostRidesOf 34 [l0, l1, l2, l3, l4, some (.int x5)] [] (C m_Integer_bitCount [.int x5] σ) := by
  refine (r_iload 5 (show decode (zb m_Scales_mostRidesOf) 32 = .ok (.iload 5, 2) from by decide +kernel) rfl).trans ?_
  exact r_stat (args := [.int x5]) (rest := []) (show decode (zb m_Scales_mostRidesOf) 34 = .ok (.invokestatic 56, 3) from by decide +kernel) rfl (by decide) rfl rfl
theorem b_Scales_mostRidesOf_37 {C : CF} {d : Nat} {σ : HP} {s0 : Int32} {l0 : Option Value} {l1 : Option Value} {l2 : Option Value} {l3 : Option Value} {l4 : Option Value} {l5 : Option Value}  : runF C d m_Scales_mostRidesOf (37, [l0, l1, l2, l3, l4, l5], [.int s0], σ) = if (4 : Int32) < s0 then runF C d m_Scales_mostRidesOf (74, [l0, l1, l2, l3, l4, l5], [], σ) else runF C d m_Scales_mostRidesOf (41, [l0, l1, l2, l3, l4, l5], [], σ) := by
  refine (r_iconst (v := (4 : Int32)) (show decode (zb m_Scales_mostRidesOf) 37 = .ok (.iconst (4), 1) from by decide +kernel) (by decide)).trans ?_
  exact r_icmp_gt 74 (show decode (zb m_Scales_mostRidesOf) 38 = .ok (.if_icmp .gt (36), 3) from by decide +kernel) rfl
theorem b_Scales_mostRidesOf_41 {C : CF} {d : Nat} {σ : HP} {a0 : Nat} {x5 : Int32} {l1 : Option Value} {l2 : Option Value} {l3 : Option Value} {l4 : Option Value} (h1 : a0 % 64 = 8) (h2 : (gR σ a0 0).isSome = true) : runF C d m_Scales_mostRidesOf (41, [some (.ref a0), l1, l2, l3, l4, some (.int x5)], [], σ) = bkN C d m_Scales_mostRidesOf 47 [some (.ref a0), l1, l2, l3, l4, some (.int x5)] [] (C m_PL_at [.ref (dr (gR σ a0 0)), .int x5] σ) := by
  refine (r_aloadn 0 (show decode (zb m_Scales_mostRidesOf) 41 = .ok (.aload_n 0, 1) from by decide +kernel) rfl).trans ?_
  refine (r_getR (show decode (zb m_Scales_mostRidesOf) 42 = .ok (.getfield 9, 3) from by decide +kernel) rfl rfl h1 h2).trans ?_
  refine (r_iload 5 (show decode (zb m_Scales_mostRidesOf) 45 = .ok (.iload 5, 2) from by decide +kernel) rfl).trans ?_
  exact r_stat (args := [.ref (dr (gR σ a0 0)), .int x5]) (rest := []) (show decode (zb m_Scales_mostRidesOf) 47 = .ok (.invokestatic 52, 3) from by decide +kernel) rfl (by decide) rfl rfl
theorem b_Scales_mostRidesOf_50 {C : CF} {d : Nat} {σ : HP} {s0 : Int32} {x2 : Int32} {l0 : Option Value} {l1 : Option Value} {l3 : Option Value} {l4 : Option Value} {l5 : Option Value}  : runF C d m_Scales_mostRidesOf (50, [l0, l1, some (.int x2), l3, l4, l5], [.int s0], σ) = if s0 ≤ x2 then runF C d m_Scales_mostRidesOf (74, [l0, l1, some (.int x2), l3, l4, l5], [], σ) else runF C d m_Scales_mostRidesOf (54, [l0, l1, some (.int x2), l3, l4, l5], [], σ) := by
  refine (r_iloadn 2 (show decode (zb m_Scales_mostRidesOf) 50 = .ok (.iload_n 2, 1) from by decide +kernel) rfl).trans ?_
  exact r_icmp_le 74 (show decode (zb m_Scales_mostRidesOf) 51 = .ok (.if_icmp .le (23), 3) from by decide +kernel) rfl
theorem b_Scales_mostRidesOf_54 {C : CF} {d : Nat} {σ : HP} {x4 : Int32} {a0 : Nat} {x1 : Int32} {x5 : Int32} {l2 : Option Value} {l3 : Option Value} (h1 : a0 % 64 = 8) (h2 : (gR σ a0 1).isSome = true) : runF C d m_Scales_mostRidesOf (54, [some (.ref a0), some (.int x1), l2, l3, some (.int x4), some (.int x5)], [], σ) = bkN C d m_Scales_mostRidesOf 65 [some (.ref a0), some (.int x1), l2, l3, some (.int x4), some (.int x5)] [.int ((1 : Int32)), .int x4] (C m_PL_at [.ref (dr (gR σ a0 1)), .int (x1 ^^^ x5)] σ) := by
  refine (r_iload 4 (show decode (zb m_Scales_mostRidesOf) 54 = .ok (.iload 4, 2) from by decide +kernel) rfl).trans ?_
  refine (r_iconst (v := (1 : Int32)) (show decode (zb m_Scales_mostRidesOf) 56 = .ok (.iconst (1), 1) from by decide +kernel) (by decide)).trans ?_
  refine (r_aloadn 0 (show decode (zb m_Scales_mostRidesOf) 57 = .ok (.aload_n 0, 1) from by decide +kernel) rfl).trans ?_
  refine (r_getR (show decode (zb m_Scales_mostRidesOf) 58 = .ok (.getfield 15, 3) from by decide +kernel) rfl rfl h1 h2).trans ?_
  refine (r_iloadn 1 (show decode (zb m_Scales_mostRidesOf) 61 = .ok (.iload_n 1, 1) from by decide +kernel) rfl).trans ?_
  refine (r_iload 5 (show decode (zb m_Scales_mostRidesOf) 62 = .ok (.iload 5, 2) from by decide +kernel) rfl).trans ?_
  refine (r_ixor (show decode (zb m_Scales_mostRidesOf) 64 = .ok (.ixor, 1) from by decide +kernel)).trans ?_
  exact r_stat (args := [.ref (dr (gR σ a0 1)), .int (x1 ^^^ x5)]) (rest := [.int ((1 : Int32)), .int x4]) (show decode (zb m_Scales_mostRidesOf) 65 = .ok (.invokestatic 52, 3) from by decide +kernel) rfl (by decide) rfl rfl
theorem b_Scales_mostRidesOf_68 {C : CF} {d : Nat} {σ : HP} {s0 : Int32} {s1 : Int32} {s2 : Int32} {l0 : Option Value} {l1 : Option Value} {l2 : Option Value} {l3 : Option Value} {l4 : Option Value} {l5 : Option Value}  : runF C d m_Scales_mostRidesOf (68, [l0, l1, l2, l3, l4, l5], [.int s0, .int s1, .int s2], σ) = runF C d m_Scales_mostRidesOf (74, [l0, l1, l2, l3, some (.int (p_max s2 (s1 + s0))), l5], [], σ) := by
  refine (r_iadd (show decode (zb m_Scales_mostRidesOf) 68 = .ok (.iadd, 1) from by decide +kernel)).trans ?_
  refine (r_max (show decode (zb m_Scales_mostRidesOf) 69 = .ok (.invokestatic 61, 3) from by decide +kernel) rfl rfl).trans ?_
  exact r_istore 4 (show decode (zb m_Scales_mostRidesOf) 72 = .ok (.istore 4, 2) from by decide +kernel) rfl
theorem b_Scales_mostRidesOf_74 {C : CF} {d : Nat} {σ : HP} {x5 : Int32} {x1 : Int32} {l0 : Option Value} {l2 : Option Value} {l3 : Option Value} {l4 : Option Value}  : runF C d m_Scales_mostRidesOf (74, [l0, some (.int x1), l2, l3, l4, some (.int x5)], [], σ) = runF C d m_Scales_mostRidesOf (20, [l0, some (.int x1), l2, l3, l4, some (.int ((x5 - (1 : Int32)) &&& x1))], [], σ) := by
  refine (r_iload 5 (show decode (zb m_Scales_mostRidesOf) 74 = .ok (.iload 5, 2) from by decide +kernel) rfl).trans ?_
  refine (r_iconst (v := (1 : Int32)) (show decode (zb m_Scales_mostRidesOf) 76 = .ok (.iconst (1), 1) from by decide +kernel) (by decide)).trans ?_
  refine (r_isub (show decode (zb m_Scales_mostRidesOf) 77 = .ok (.isub, 1) from by decide +kernel)).trans ?_
  refine (r_iloadn 1 (show decode (zb m_Scales_mostRidesOf) 78 = .ok (.iload_n 1, 1) from by decide +kernel) rfl).trans ?_
  refine (r_iand (show decode (zb m_Scales_mostRidesOf) 79 = .ok (.iand, 1) from by decide +kernel)).trans ?_
  refine (r_istore 5 (show decode (zb m_Scales_mostRidesOf) 80 = .ok (.istore 5, 2) from by decide +kernel) rfl).trans ?_
  exact r_goto 20 (show decode (zb m_Scales_mostRidesOf) 82 = .ok (.goto (-62), 3) from by decide +kernel) rfl
theorem b_Scales_mostRidesOf_85 {C : CF} {d : Nat} {σ : HP} {x4 : Int32} {l0 : Option Value} {l1 : Option Value} {l2 : Option Value} {l3 : Option Value} {l5 : Option Value}  : runF C d m_Scales_mostRidesOf (85, [l0, l1, l2, l3, some (.int x4), l5], [], σ) = some (.inl (some (.int x4)), σ) := by
  refine (r_iload 4 (show decode (zb m_Scales_mostRidesOf) 85 = .ok (.iload 4, 2) from by decide +kernel) rfl).trans ?_
  exact r_iret (show decode (zb m_Scales_mostRidesOf) 87 = .ok (.ireturn, 1) from by decide +kernel) rfl rfl
theorem e_Scales_fewestCardsTo {d : Nat} {σ : HP} {a0 : Nat} {a1 : Nat} {x2 : Int32} : callF (d + 1) m_Scales_fewestCardsTo [.ref a0, .ref a1, .int x2] σ = runF (callF d) d m_Scales_fewestCardsTo (0, [some (.ref a0), some (.ref a1), some (.int x2), none, none, none, none], [], σ) := callF_in rfl rfl
theorem b_Scales_fewestCardsTo_0 {C : CF} {d : Nat} {σ : HP} {a1 : Nat} {l0 : Option Value} {l2 : Option Value} {l3 : Option Value} {l4 : Option Value} {l5 : Option Value} {l6 : Option Value} (h1 : a1 % 64 = 5) (h2 : (gR σ a1 2).isSome = true) (h3 : (dr (gR σ a1 2)) % 64 = 1) : runF C d m_Scales_fewestCardsTo (0, [l0, some (.ref a1), l2, l3, l4, l5, l6], [], σ) = if ¬ (gI σ (dr (gR σ a1 2)) 2) = 0 then runF C d m_Scales_fewestCardsTo (12, [l0, some (.ref a1), l2, l3, l4, l5, l6], [], σ) else runF C d m_Scales_fewestCardsTo (10, [l0, some (.ref a1), l2, l3, l4, l5, l6], [], σ) := by
  refine (r_aloadn 1 (show decode (zb m_Scales_fewestCardsTo) 0 = .ok (.aload_n 1, 1) from by decide +kernel) rfl).trans ?_
  refine (r_getR (show decode (zb m_Scales_fewestCardsTo) 1 = .ok (.getfield 75, 3) from by decide +kernel) rfl rfl h1 h2).trans ?_
  refine (r_getI (show decode (zb m_Scales_fewestCardsTo) 4 = .ok (.getfield 79, 3) from by decide +kernel) rfl rfl h3).trans ?_
  exact r_if_ne 12 (show decode (zb m_Scales_fewestCardsTo) 7 = .ok (.ifCond .ne (5), 3) from by decide +kernel) rfl
theorem b_Scales_fewestCardsTo_10 {C : CF} {d : Nat} {σ : HP} {l0 : Option Value} {l1 : Option Value} {l2 : Option Value} {l3 : Option Value} {l4 : Option Value} {l5 : Option Value} {l6 : Option Value}  : runF C d m_Scales_fewestCardsTo (10, [l0, l1, l2, l3, l4, l5, l6], [], σ) = some (.inl (some (.int (-1 : Int32))), σ) := by
  refine (r_iconst (v := (-1 : Int32)) (show decode (zb m_Scales_fewestCardsTo) 10 = .ok (.iconst (-1), 1) from by decide +kernel) (by decide)).trans ?_
  exact r_iret (show decode (zb m_Scales_fewestCardsTo) 11 = .ok (.ireturn, 1) from by decide +kernel) rfl rfl
theorem b_Scales_fewestCardsTo_12 {C : CF} {d : Nat} {σ : HP} {l0 : Option Value} {l1 : Option Value} {l2 : Option Value} {l3 : Option Value} {l4 : Option Value} {l5 : Option Value} {l6 : Option Value}  : runF C d m_Scales_fewestCardsTo (12, [l0, l1, l2, l3, l4, l5, l6], [], σ) = runF C d m_Scales_fewestCardsTo (17, [l0, l1, l2, some (.int ((0 : Int32))), some (.int ((0 : Int32))), l5, l6], [], σ) := by
  refine (r_iconst (v := (0 : Int32)) (show decode (zb m_Scales_fewestCardsTo) 12 = .ok (.iconst (0), 1) from by decide +kernel) (by decide)).trans ?_
  refine (r_istoren 3 (show decode (zb m_Scales_fewestCardsTo) 13 = .ok (.istore_n 3, 1) from by decide +kernel) rfl).trans ?_
  refine (r_iconst (v := (0 : Int32)) (show decode (zb m_Scales_fewestCardsTo) 14 = .ok (.iconst (0), 1) from by decide +kernel) (by decide)).trans ?_
  exact r_istore 4 (show decode (zb m_Scales_fewestCardsTo) 15 = .ok (.istore 4, 2) from by decide +kernel) rfl
theorem b_Scales_fewestCardsTo_17 {C : CF} {d : Nat} {σ : HP} {x4 : Int32} {a1 : Nat} {l0 : Option Value} {l2 : Option Value} {l3 : Option Value} {l5 : Option Value} {l6 : Option Value} (h1 : a1 % 64 = 5) (h2 : (gR σ a1 0).isSome = true) (h3 : (dr (gR σ a1 0)) % 64 = 2) : runF C d m_Scales_fewestCardsTo (17, [l0, some (.ref a1), l2, l3, some (.int x4), l5, l6], [], σ) = if (gI σ (dr (gR σ a1 0)) 2) ≤ x4 then runF C d m_Scales_fewestCardsTo (72, [l0, some (.ref a1), l2, l3, some (.int x4), l5, l6], [], σ) else runF C d m_Scales_fewestCardsTo (29, [l0, some (.ref a1), l2, l3, some (.int x4), l5, l6], [], σ) := by
  refine (r_iload 4 (show decode (zb m_Scales_fewestCardsTo) 17 = .ok (.iload 4, 2) from by decide +kernel) rfl).trans ?_
  refine (r_aloadn 1 (show decode (zb m_Scales_fewestCardsTo) 19 = .ok (.aload_n 1, 1) from by decide +kernel) rfl).trans ?_
  refine (r_getR (show decode (zb m_Scales_fewestCardsTo) 20 = .ok (.getfield 25, 3) from by decide +kernel) rfl rfl h1 h2).trans ?_
  refine (r_getI (show decode (zb m_Scales_fewestCardsTo) 23 = .ok (.getfield 84, 3) from by decide +kernel) rfl rfl h3).trans ?_
  exact r_icmp_ge 72 (show decode (zb m_Scales_fewestCardsTo) 26 = .ok (.if_icmp .ge (46), 3) from by decide +kernel) rfl
theorem b_Scales_fewestCardsTo_29 {C : CF} {d : Nat} {σ : HP} {a0 : Nat} {a1 : Nat} {x4 : Int32} {l2 : Option Value} {l3 : Option Value} {l5 : Option Value} {l6 : Option Value} (h1 : a0 % 64 = 8) : runF C d m_Scales_fewestCardsTo (29, [some (.ref a0), some (.ref a1), l2, l3, some (.int x4), l5, l6], [], σ) = bk C d m_Scales_fewestCardsTo 33 [some (.ref a0), some (.ref a1), l2, l3, some (.int x4), l5, l6] [] (C m_Scales_mostSwellInside [.ref a0, .ref a1, .int x4] σ) := by
  refine (r_aloadn 0 (show decode (zb m_Scales_fewestCardsTo) 29 = .ok (.aload_n 0, 1) from by decide +kernel) rfl).trans ?_
  refine (r_aloadn 1 (show decode (zb m_Scales_fewestCardsTo) 30 = .ok (.aload_n 1, 1) from by decide +kernel) rfl).trans ?_
  refine (r_iload 4 (show decode (zb m_Scales_fewestCardsTo) 31 = .ok (.iload 4, 2) from by decide +kernel) rfl).trans ?_
  exact r_virt (args := [.ref a1, .int x4]) (rest := []) (show decode (zb m_Scales_fewestCardsTo) 33 = .ok (.invokevirtual 87, 3) from by decide +kernel) rfl rfl rfl h1
theorem b_Scales_fewestCardsTo_36 {C : CF} {d : Nat} {σ : HP} {s0 : Int32} {a0 : Nat} {x4 : Int32} {l1 : Option Value} {l2 : Option Value} {l3 : Option Value} {l5 : Option Value} {l6 : Option Value} (h1 : a0 % 64 = 8) (h2 : (gR σ a0 2).isSome = true) : runF C d m_Scales_fewestCardsTo (36, [some (.ref a0), l1, l2, l3, some (.int x4), l5, l6], [.int s0], σ) = bkN C d m_Scales_fewestCardsTo 46 [some (.ref a0), l1, l2, l3, some (.int x4), some (.int s0), l6] [] (C m_PL_put [.ref (dr (gR σ a0 2)), .int x4, .int s0] σ) := by
  refine (r_istore 5 (show decode (zb m_Scales_fewestCardsTo) 36 = .ok (.istore 5, 2) from by decide +kernel) rfl).trans ?_
  refine (r_aloadn 0 (show decode (zb m_Scales_fewestCardsTo) 38 = .ok (.aload_n 0, 1) from by decide +kernel) rfl).trans ?_
  refine (r_getR (show decode (zb m_Scales_fewestCardsTo) 39 = .ok (.getfield 18, 3) from by decide +kernel) rfl rfl h1 h2).trans ?_
  refine (r_iload 4 (show decode (zb m_Scales_fewestCardsTo) 42 = .ok (.iload 4, 2) from by decide +kernel) rfl).trans ?_
  refine (r_iload 5 (show decode (zb m_Scales_fewestCardsTo) 44 = .ok (.iload 5, 2) from by decide +kernel) rfl).trans ?_
  exact r_stat (args := [.ref (dr (gR σ a0 2)), .int x4, .int s0]) (rest := []) (show decode (zb m_Scales_fewestCardsTo) 46 = .ok (.invokestatic 41, 3) from by decide +kernel) rfl (by decide) rfl rfl
theorem b_Scales_fewestCardsTo_49 {C : CF} {d : Nat} {σ : HP} {x3 : Int32} {x5 : Int32} {l0 : Option Value} {l1 : Option Value} {l2 : Option Value} {l4 : Option Value} {l6 : Option Value}  : runF C d m_Scales_fewestCardsTo (49, [l0, l1, l2, some (.int x3), l4, some (.int x5), l6], [], σ) = if ¬ x5 = (-1 : Int32) then runF C d m_Scales_fewestCardsTo (60, [l0, l1, l2, some (.int x3), l4, some (.int x5), l6], [.int x3], σ) else runF C d m_Scales_fewestCardsTo (56, [l0, l1, l2, some (.int x3), l4, some (.int x5), l6], [.int x3], σ) := by
  refine (r_iloadn 3 (show decode (zb m_Scales_fewestCardsTo) 49 = .ok (.iload_n 3, 1) from by decide +kernel) rfl).trans ?_
  refine (r_iload 5 (show decode (zb m_Scales_fewestCardsTo) 50 = .ok (.iload 5, 2) from by decide +kernel) rfl).trans ?_
  refine (r_iconst (v := (-1 : Int32)) (show decode (zb m_Scales_fewestCardsTo) 52 = .ok (.iconst (-1), 1) from by decide +kernel) (by decide)).trans ?_
  exact r_icmp_ne 60 (show decode (zb m_Scales_fewestCardsTo) 53 = .ok (.if_icmp .ne (7), 3) from by decide +kernel) rfl
theorem b_Scales_fewestCardsTo_56 {C : CF} {d : Nat} {σ : HP} {s0 : Int32} {l0 : Option Value} {l1 : Option Value} {l2 : Option Value} {l3 : Option Value} {l4 : Option Value} {l5 : Option Value} {l6 : Option Value}  : runF C d m_Scales_fewestCardsTo (56, [l0, l1, l2, l3, l4, l5, l6], [.int s0], σ) = runF C d m_Scales_fewestCardsTo (64, [l0, l1, l2, l3, l4, l5, l6], [.int ((0 : Int32)), .int s0], σ) := by
  refine (r_iconst (v := (0 : Int32)) (show decode (zb m_Scales_fewestCardsTo) 56 = .ok (.iconst (0), 1) from by decide +kernel) (by decide)).trans ?_
  exact r_goto 64 (show decode (zb m_Scales_fewestCardsTo) 57 = .ok (.goto (7), 3) from by decide +kernel) rfl
theorem b_Scales_fewestCardsTo_60 {C : CF} {d : Nat} {σ : HP} {s0 : Int32} {x4 : Int32} {l0 : Option Value} {l1 : Option Value} {l2 : Option Value} {l3 : Option Value} {l5 : Option Value} {l6 : Option Value}  : runF C d m_Scales_fewestCardsTo (60, [l0, l1, l2, l3, some (.int x4), l5, l6], [.int s0], σ) = runF C d m_Scales_fewestCardsTo (64, [l0, l1, l2, l3, some (.int x4), l5, l6], [.int (p_shl (1 : Int32) x4), .int s0], σ) := by
  refine (r_iconst (v := (1 : Int32)) (show decode (zb m_Scales_fewestCardsTo) 60 = .ok (.iconst (1), 1) from by decide +kernel) (by decide)).trans ?_
  refine (r_iload 4 (show decode (zb m_Scales_fewestCardsTo) 61 = .ok (.iload 4, 2) from by decide +kernel) rfl).trans ?_
  exact r_ishl (show decode (zb m_Scales_fewestCardsTo) 63 = .ok (.ishl, 1) from by decide +kernel)
theorem b_Scales_fewestCardsTo_64 {C : CF} {d : Nat} {σ : HP} {s0 : Int32} {s1 : Int32} {x4 : Int32} {l0 : Option Value} {l1 : Option Value} {l2 : Option Value} {l3 : Option Value} {l5 : Option Value} {l6 : Option Value}  : runF C d m_Scales_fewestCardsTo (64, [l0, l1, l2, l3, some (.int x4), l5, l6], [.int s0, .int s1], σ) = runF C d m_Scales_fewestCardsTo (17, [l0, l1, l2, some (.int (s1 ||| s0)), some (.int (x4 + (1 : Int32))), l5, l6], [], σ) := by
  refine (r_ior (show decode (zb m_Scales_fewestCardsTo) 64 = .ok (.ior, 1) from by decide +kernel)).trans ?_
  refine (r_istoren 3 (show decode (zb m_Scales_fewestCardsTo) 65 = .ok (.istore_n 3, 1) from by decide +kernel) rfl).trans ?_
  refine (r_iinc 4 (v := (1 : Int32)) (show decode (zb m_Scales_fewestCardsTo) 66 = .ok (.iinc 4 (1), 3) from by decide +kernel) rfl rfl (by decide)).trans ?_
  exact r_goto 17 (show decode (zb m_Scales_fewestCardsTo) 69 = .ok (.goto (-52), 3) from by decide +kernel) rfl
theorem b_Scales_fewestCardsTo_72 {C : CF} {d : Nat} {σ : HP} {a1 : Nat} {l0 : Option Value} {l2 : Option Value} {l3 : Option Value} {l4 : Option Value} {l5 : Option Value} {l6 : Option Value} (h1 : a1 % 64 = 5) : runF C d m_Scales_fewestCardsTo (72, [l0, some (.ref a1), l2, l3, l4, l5, l6], [], σ) = bk C d m_Scales_fewestCardsTo 73 [l0, some (.ref a1), l2, l3, l4, l5, l6] [] (C m_Lift_loadNow [.ref a1] σ) := by
  refine (r_aloadn 1 (show decode (zb m_Scales_fewestCardsTo) 72 = .ok (.aload_n 1, 1) from by decide +kernel) rfl).trans ?_
  exact r_virt (args := []) (rest := []) (show decode (zb m_Scales_fewestCardsTo) 73 = .ok (.invokevirtual 91, 3) from by decide +kernel) rfl rfl rfl h1
theorem b_Scales_fewestCardsTo_76 {C : CF} {d : Nat} {σ : HP} {s0 : Int32} {l0 : Option Value} {l1 : Option Value} {l2 : Option Value} {l3 : Option Value} {l4 : Option Value} {l5 : Option Value} {l6 : Option Value}  : runF C d m_Scales_fewestCardsTo (76, [l0, l1, l2, l3, l4, l5, l6], [.int s0], σ) = runF C d m_Scales_fewestCardsTo (84, [l0, l1, l2, l3, some (.int s0), some (.int ((-1 : Int32))), some (.int ((0 : Int32)))], [], σ) := by
  refine (r_istore 4 (show decode (zb m_Scales_fewestCardsTo) 76 = .ok (.istore 4, 2) from by decide +kernel) rfl).trans ?_
  refine (r_iconst (v := (-1 : Int32)) (show decode (zb m_Scales_fewestCardsTo) 78 = .ok (.iconst (-1), 1) from by decide +kernel) (by decide)).trans ?_
  refine (r_istore 5 (show decode (zb m_Scales_fewestCardsTo) 79 = .ok (.istore 5, 2) from by decide +kernel) rfl).trans ?_
  refine (r_iconst (v := (0 : Int32)) (show decode (zb m_Scales_fewestCardsTo) 81 = .ok (.iconst (0), 1) from by decide +kernel) (by decide)).trans ?_
  exact r_istore 6 (show decode (zb m_Scales_fewestCardsTo) 82 = .ok (.istore 6, 2) from by decide +kernel) rfl
theorem b_Scales_fewestCardsTo_84 {C : CF} {d : Nat} {σ : HP} {x6 : Int32} {a1 : Nat} {l0 : Option Value} {l2 : Option Value} {l3 : Option Value} {l4 : Option Value} {l5 : Option Value} (h1 : a1 % 64 = 5) (h2 : (gR σ a1 0).isSome = true) (h3 : (dr (gR σ a1 0)) % 64 = 2) : runF C d m_Scales_fewestCardsTo (84, [l0, some (.ref a1), l2, l3, l4, l5, some (.int x6)], [], σ) = if (p_shl (1 : Int32) (gI σ (dr (gR σ a1 0)) 2)) ≤ x6 then runF C d m_Scales_fewestCardsTo (160, [l0, some (.ref a1), l2, l3, l4, l5, some (.int x6)], [], σ) else runF C d m_Scales_fewestCardsTo (98, [l0, some (.ref a1), l2, l3, l4, l5, some (.int x6)], [], σ) := by
  refine (r_iload 6 (show decode (zb m_Scales_fewestCardsTo) 84 = .ok (.iload 6, 2) from by decide +kernel) rfl).trans ?_
  refine (r_iconst (v := (1 : Int32)) (show decode (zb m_Scales_fewestCardsTo) 86 = .ok (.iconst (1), 1) from by decide +kernel) (by decide)).trans ?_
  refine (r_aloadn 1 (show decode (zb m_Scales_fewestCardsTo) 87 = .ok (.aload_n 1, 1) from by decide +kernel) rfl).trans ?_
  refine (r_getR (show decode (zb m_Scales_fewestCardsTo) 88 = .ok (.getfield 25, 3) from by decide +kernel) rfl rfl h1 h2).trans ?_
  refine (r_getI (show decode (zb m_Scales_fewestCardsTo) 91 = .ok (.getfield 84, 3) from by decide +kernel) rfl rfl h3).trans ?_
  refine (r_ishl (show decode (zb m_Scales_fewestCardsTo) 94 = .ok (.ishl, 1) from by decide +kernel)).trans ?_
  exact r_icmp_ge 160 (show decode (zb m_Scales_fewestCardsTo) 95 = .ok (.if_icmp .ge (65), 3) from by decide +kernel) rfl
theorem b_Scales_fewestCardsTo_98 {C : CF} {d : Nat} {σ : HP} {x6 : Int32} {x3 : Int32} {l0 : Option Value} {l1 : Option Value} {l2 : Option Value} {l4 : Option Value} {l5 : Option Value}  : runF C d m_Scales_fewestCardsTo (98, [l0, l1, l2, some (.int x3), l4, l5, some (.int x6)], [], σ) = if ¬ (x6 &&& (x3 ^^^ (-1 : Int32))) = 0 then runF C d m_Scales_fewestCardsTo (154, [l0, l1, l2, some (.int x3), l4, l5, some (.int x6)], [], σ) else runF C d m_Scales_fewestCardsTo (107, [l0, l1, l2, some (.int x3), l4, l5, some (.int x6)], [], σ) := by
  refine (r_iload 6 (show decode (zb m_Scales_fewestCardsTo) 98 = .ok (.iload 6, 2) from by decide +kernel) rfl).trans ?_
  refine (r_iloadn 3 (show decode (zb m_Scales_fewestCardsTo) 100 = .ok (.iload_n 3, 1) from by decide +kernel) rfl).trans ?_
  refine (r_iconst (v := (-1 : Int32)) (show decode (zb m_Scales_fewestCardsTo) 101 = .ok (.iconst (-1), 1) from by decide +kernel) (by decide)).trans ?_
  refine (r_ixor (show decode (zb m_Scales_fewestCardsTo) 102 = .ok (.ixor, 1) from by decide +kernel)).trans ?_
  refine (r_iand (show decode (zb m_Scales_fewestCardsTo) 103 = .ok (.iand, 1) from by decide +kernel)).trans ?_
  exact r_if_ne 154 (show decode (zb m_Scales_fewestCardsTo) 104 = .ok (.ifCond .ne (50), 3) from by decide +kernel) rfl
theorem b_Scales_fewestCardsTo_107 {C : CF} {d : Nat} {σ : HP} {x5 : Int32} {l0 : Option Value} {l1 : Option Value} {l2 : Option Value} {l3 : Option Value} {l4 : Option Value} {l6 : Option Value}  : runF C d m_Scales_fewestCardsTo (107, [l0, l1, l2, l3, l4, some (.int x5), l6], [], σ) = if x5 = (-1 : Int32) then runF C d m_Scales_fewestCardsTo (126, [l0, l1, l2, l3, l4, some (.int x5), l6], [], σ) else runF C d m_Scales_fewestCardsTo (113, [l0, l1, l2, l3, l4, some (.int x5), l6], [], σ) := by
  refine (r_iload 5 (show decode (zb m_Scales_fewestCardsTo) 107 = .ok (.iload 5, 2) from by decide +kernel) rfl).trans ?_
  refine (r_iconst (v := (-1 : Int32)) (show decode (zb m_Scales_fewestCardsTo) 109 = .ok (.iconst (-1), 1) from by decide +kernel) (by decide)).trans ?_
  exact r_icmp_eq 126 (show decode (zb m_Scales_fewestCardsTo) 110 = .ok (.if_icmp .eq (16), 3) from by decide +kernel) rfl
theorem b_Scales_fewestCardsTo_113 {C : CF} {d : Nat} {σ : HP} {x6 : Int32} {l0 : Option Value} {l1 : Option Value} {l2 : Option Value} {l3 : Option Value} {l4 : Option Value} {l5 : Option Value}  : runF C d m_Scales_fewestCardsTo (113, [l0, l1, l2, l3, l4, l5, some (.int x6)], [], σ) = bkN C d m_Scales_fewestCardsTo 115 [l0, l1, l2, l3, l4, l5, some (.int x6)] [] (C m_Integer_bitCount [.int x6] σ) := by
  refine (r_iload 6 (show decode (zb m_Scales_fewestCardsTo) 113 = .ok (.iload 6, 2) from by decide +kernel) rfl).trans ?_
  exact r_stat (args := [.int x6]) (rest := []) (show decode (zb m_Scales_fewestCardsTo) 115 = .ok (.invokestatic 56, 3) from by decide +kernel) rfl (by decide) rfl rfl
theorem b_Scales_fewestCardsTo_118 {C : CF} {d : Nat} {σ : HP} {s0 : Int32} {x5 : Int32} {l0 : Option Value} {l1 : Option Value} {l2 : Option Value} {l3 : Option Value} {l4 : Option Value} {l6 : Option Value}  : runF C d m_Scales_fewestCardsTo (118, [l0, l1, l2, l3, l4, some (.int x5), l6], [.int s0], σ) = bkN C d m_Scales_fewestCardsTo 120 [l0, l1, l2, l3, l4, some (.int x5), l6] [.int s0] (C m_Integer_bitCount [.int x5] σ) := by
  refine (r_iload 5 (show decode (zb m_Scales_fewestCardsTo) 118 = .ok (.iload 5, 2) from by decide +kernel) rfl).trans ?_
  exact r_stat (args := [.int x5]) (rest := [.int s0]) (show decode (zb m_Scales_fewestCardsTo) 120 = .ok (.invokestatic 56, 3) from by decide +kernel) rfl (by decide) rfl rfl
theorem b_Scales_fewestCardsTo_123 {C : CF} {d : Nat} {σ : HP} {s0 : Int32} {s1 : Int32} {l0 : Option Value} {l1 : Option Value} {l2 : Option Value} {l3 : Option Value} {l4 : Option Value} {l5 : Option Value} {l6 : Option Value}  : runF C d m_Scales_fewestCardsTo (123, [l0, l1, l2, l3, l4, l5, l6], [.int s0, .int s1], σ) = if s0 ≤ s1 then runF C d m_Scales_fewestCardsTo (154, [l0, l1, l2, l3, l4, l5, l6], [], σ) else runF C d m_Scales_fewestCardsTo (126, [l0, l1, l2, l3, l4, l5, l6], [], σ) := by
  exact r_icmp_ge 154 (show decode (zb m_Scales_fewestCardsTo) 123 = .ok (.if_icmp .ge (31), 3) from by decide +kernel) rfl
theorem b_Scales_fewestCardsTo_126 {C : CF} {d : Nat} {σ : HP} {a1 : Nat} {x4 : Int32} {a0 : Nat} {x6 : Int32} {l2 : Option Value} {l3 : Option Value} {l5 : Option Value} (h1 : a1 % 64 = 5) (h2 : (gR σ a1 2).isSome = true) (h3 : (dr (gR σ a1 2)) % 64 = 1) (h4 : a0 % 64 = 8) : runF C d m_Scales_fewestCardsTo (126, [some (.ref a0), some (.ref a1), l2, l3, some (.int x4), l5, some (.int x6)], [], σ) = bk C d m_Scales_fewestCardsTo 139 [some (.ref a0), some (.ref a1), l2, l3, some (.int x4), l5, some (.int x6)] [.int x4, .int (gI σ (dr (gR σ a1 2)) 1), .ref a1] (C m_Scales_swellOfSet [.ref a0, .int x6] σ) := by
  refine (r_aloadn 1 (show decode (zb m_Scales_fewestCardsTo) 126 = .ok (.aload_n 1, 1) from by decide +kernel) rfl).trans ?_
  refine (r_aloadn 1 (show decode (zb m_Scales_fewestCardsTo) 127 = .ok (.aload_n 1, 1) from by decide +kernel) rfl).trans ?_
  refine (r_getR (show decode (zb m_Scales_fewestCardsTo) 128 = .ok (.getfield 75, 3) from by decide +kernel) rfl rfl h1 h2).trans ?_
  refine (r_getI (show decode (zb m_Scales_fewestCardsTo) 131 = .ok (.getfield 95, 3) from by decide +kernel) rfl rfl h3).trans ?_
  refine (r_iload 4 (show decode (zb m_Scales_fewestCardsTo) 134 = .ok (.iload 4, 2) from by decide +kernel) rfl).trans ?_
  refine (r_aloadn 0 (show decode (zb m_Scales_fewestCardsTo) 136 = .ok (.aload_n 0, 1) from by decide +kernel) rfl).trans ?_
  refine (r_iload 6 (show decode (zb m_Scales_fewestCardsTo) 137 = .ok (.iload 6, 2) from by decide +kernel) rfl).trans ?_
  exact r_virt (args := [.int x6]) (rest := [.int x4, .int (gI σ (dr (gR σ a1 2)) 1), .ref a1]) (show decode (zb m_Scales_fewestCardsTo) 139 = .ok (.invokevirtual 98, 3) from by decide +kernel) rfl rfl rfl h4
theorem b_Scales_fewestCardsTo_142 {C : CF} {d : Nat} {σ : HP} {s0 : Int32} {s1 : Int32} {s2 : Int32} {r3 : Nat} {l0 : Option Value} {l1 : Option Value} {l2 : Option Value} {l3 : Option Value} {l4 : Option Value} {l5 : Option Value} {l6 : Option Value} (h1 : r3 % 64 = 5) : runF C d m_Scales_fewestCardsTo (142, [l0, l1, l2, l3, l4, l5, l6], [.int s0, .int s1, .int s2, .ref r3], σ) = bk C d m_Scales_fewestCardsTo 143 [l0, l1, l2, l3, l4, l5, l6] [] (C m_Lift_goesFrom [.ref r3, .int s2, .int (s1 + s0)] σ) := by
  refine (r_iadd (show decode (zb m_Scales_fewestCardsTo) 142 = .ok (.iadd, 1) from by decide +kernel)).trans ?_
  exact r_virt (args := [.int s2, .int (s1 + s0)]) (rest := []) (show decode (zb m_Scales_fewestCardsTo) 143 = .ok (.invokevirtual 101, 3) from by decide +kernel) rfl rfl rfl h1
theorem b_Scales_fewestCardsTo_146 {C : CF} {d : Nat} {σ : HP} {s0 : Int32} {x2 : Int32} {l0 : Option Value} {l1 : Option Value} {l3 : Option Value} {l4 : Option Value} {l5 : Option Value} {l6 : Option Value}  : runF C d m_Scales_fewestCardsTo (146, [l0, l1, some (.int x2), l3, l4, l5, l6], [.int s0], σ) = if ¬ s0 = x2 then runF C d m_Scales_fewestCardsTo (154, [l0, l1, some (.int x2), l3, l4, l5, l6], [], σ) else runF C d m_Scales_fewestCardsTo (150, [l0, l1, some (.int x2), l3, l4, l5, l6], [], σ) := by
  refine (r_iloadn 2 (show decode (zb m_Scales_fewestCardsTo) 146 = .ok (.iload_n 2, 1) from by decide +kernel) rfl).trans ?_
  exact r_icmp_ne 154 (show decode (zb m_Scales_fewestCardsTo) 147 = .ok (.if_icmp .ne (7), 3) from by decide +kernel) rfl
theorem b_Scales_fewestCardsTo_150 {C : CF} {d : Nat} {σ : HP} {x6 : Int32} {l0 : Option Value} {l1 : Option Value} {l2 : Option Value} {l3 : Option Value} {l4 : Option Value} {l5 : Option Value}  : runF C d m_Scales_fewestCardsTo (150, [l0, l1, l2, l3, l4, l5, some (.int x6)], [], σ) = runF C d m_Scales_fewestCardsTo (154, [l0, l1, l2, l3, l4, some (.int x6), some (.int x6)], [], σ) := by
  refine (r_iload 6 (show decode (zb m_Scales_fewestCardsTo) 150 = .ok (.iload 6, 2) from by decide +kernel) rfl).trans ?_
  exact r_istore 5 (show decode (zb m_Scales_fewestCardsTo) 152 = .ok (.istore 5, 2) from by decide +kernel) rfl
theorem b_Scales_fewestCardsTo_154 {C : CF} {d : Nat} {σ : HP} {x6 : Int32} {l0 : Option Value} {l1 : Option Value} {l2 : Option Value} {l3 : Option Value} {l4 : Option Value} {l5 : Option Value}  : runF C d m_Scales_fewestCardsTo (154, [l0, l1, l2, l3, l4, l5, some (.int x6)], [], σ) = runF C d m_Scales_fewestCardsTo (84, [l0, l1, l2, l3, l4, l5, some (.int (x6 + (1 : Int32)))], [], σ) := by
  refine (r_iinc 6 (v := (1 : Int32)) (show decode (zb m_Scales_fewestCardsTo) 154 = .ok (.iinc 6 (1), 3) from by decide +kernel) rfl rfl (by decide)).trans ?_
  exact r_goto 84 (show decode (zb m_Scales_fewestCardsTo) 157 = .ok (.goto (-73), 3) from by decide +kernel) rfl
theorem b_Scales_fewestCardsTo_160 {C : CF} {d : Nat} {σ : HP} {x5 : Int32} {l0 : Option Value} {l1 : Option Value} {l2 : Option Value} {l3 : Option Value} {l4 : Option Value} {l6 : Option Value}  : runF C d m_Scales_fewestCardsTo (160, [l0, l1, l2, l3, l4, some (.int x5), l6], [], σ) = some (.inl (some (.int x5)), σ) := by
  refine (r_iload 5 (show decode (zb m_Scales_fewestCardsTo) 160 = .ok (.iload 5, 2) from by decide +kernel) rfl).trans ?_
  exact r_iret (show decode (zb m_Scales_fewestCardsTo) 162 = .ok (.ireturn, 1) from by decide +kernel) rfl rfl
theorem e_Scales_mostSwellInside {d : Nat} {σ : HP} {a0 : Nat} {a1 : Nat} {x2 : Int32} : callF (d + 1) m_Scales_mostSwellInside [.ref a0, .ref a1, .int x2] σ = runF (callF d) d m_Scales_mostSwellInside (0, [some (.ref a0), some (.ref a1), some (.int x2), none, none], [], σ) := callF_in rfl rfl
theorem b_Scales_mostSwellInside_0 {C : CF} {d : Nat} {σ : HP} {l0 : Option Value} {l1 : Option Value} {l2 : Option Value} {l3 : Option Value} {l4 : Option Value}  : runF C d m_Scales_mostSwellInside (0, [l0, l1, l2, l3, l4], [], σ) = runF C d m_Scales_mostSwellInside (5, [l0, l1, l2, some (.int ((-1 : Int32))), some (.int ((0 : Int32)))], [], σ) := by
  refine (r_iconst (v := (-1 : Int32)) (show decode (zb m_Scales_mostSwellInside) 0 = .ok (.iconst (-1), 1) from by decide +kernel) (by decide)).trans ?_
  refine (r_istoren 3 (show decode (zb m_Scales_mostSwellInside) 1 = .ok (.istore_n 3, 1) from by decide +kernel) rfl).trans ?_
  refine (r_iconst (v := (0 : Int32)) (show decode (zb m_Scales_mostSwellInside) 2 = .ok (.iconst (0), 1) from by decide +kernel) (by decide)).trans ?_
  exact r_istore 4 (show decode (zb m_Scales_mostSwellInside) 3 = .ok (.istore 4, 2) from by decide +kernel) rfl
theorem b_Scales_mostSwellInside_5 {C : CF} {d : Nat} {σ : HP} {x4 : Int32} {a1 : Nat} {l0 : Option Value} {l2 : Option Value} {l3 : Option Value} (h1 : a1 % 64 = 5) (h2 : (gR σ a1 0).isSome = true) (h3 : (dr (gR σ a1 0)) % 64 = 2) : runF C d m_Scales_mostSwellInside (5, [l0, some (.ref a1), l2, l3, some (.int x4)], [], σ) = if (gI σ (dr (gR σ a1 0)) 1) ≤ x4 then runF C d m_Scales_mostSwellInside (59, [l0, some (.ref a1), l2, l3, some (.int x4)], [], σ) else runF C d m_Scales_mostSwellInside (17, [l0, some (.ref a1), l2, l3, some (.int x4)], [], σ) := by
  refine (r_iload 4 (show decode (zb m_Scales_mostSwellInside) 5 = .ok (.iload 4, 2) from by decide +kernel) rfl).trans ?_
  refine (r_aloadn 1 (show decode (zb m_Scales_mostSwellInside) 7 = .ok (.aload_n 1, 1) from by decide +kernel) rfl).trans ?_
  refine (r_getR (show decode (zb m_Scales_mostSwellInside) 8 = .ok (.getfield 25, 3) from by decide +kernel) rfl rfl h1 h2).trans ?_
  refine (r_getI (show decode (zb m_Scales_mostSwellInside) 11 = .ok (.getfield 31, 3) from by decide +kernel) rfl rfl h3).trans ?_
  exact r_icmp_ge 59 (show decode (zb m_Scales_mostSwellInside) 14 = .ok (.if_icmp .ge (45), 3) from by decide +kernel) rfl
theorem b_Scales_mostSwellInside_17 {C : CF} {d : Nat} {σ : HP} {a1 : Nat} {x4 : Int32} {l0 : Option Value} {l2 : Option Value} {l3 : Option Value} (h1 : a1 % 64 = 5) : runF C d m_Scales_mostSwellInside (17, [l0, some (.ref a1), l2, l3, some (.int x4)], [], σ) = bk C d m_Scales_mostSwellInside 20 [l0, some (.ref a1), l2, l3, some (.int x4)] [] (C m_Lift_isInside [.ref a1, .int x4] σ) := by
  refine (r_aloadn 1 (show decode (zb m_Scales_mostSwellInside) 17 = .ok (.aload_n 1, 1) from by decide +kernel) rfl).trans ?_
  refine (r_iload 4 (show decode (zb m_Scales_mostSwellInside) 18 = .ok (.iload 4, 2) from by decide +kernel) rfl).trans ?_
  exact r_virt (args := [.int x4]) (rest := []) (show decode (zb m_Scales_mostSwellInside) 20 = .ok (.invokevirtual 104, 3) from by decide +kernel) rfl rfl rfl h1
theorem b_Scales_mostSwellInside_23 {C : CF} {d : Nat} {σ : HP} {s0 : Int32} {l0 : Option Value} {l1 : Option Value} {l2 : Option Value} {l3 : Option Value} {l4 : Option Value}  : runF C d m_Scales_mostSwellInside (23, [l0, l1, l2, l3, l4], [.int s0], σ) = if s0 = 0 then runF C d m_Scales_mostSwellInside (53, [l0, l1, l2, l3, l4], [], σ) else runF C d m_Scales_mostSwellInside (26, [l0, l1, l2, l3, l4], [], σ) := by
  exact r_if_eq 53 (show decode (zb m_Scales_mostSwellInside) 23 = .ok (.ifCond .eq (30), 3) from by decide +kernel) rfl
theorem b_Scales_mostSwellInside_26 {C : CF} {d : Nat} {σ : HP} {a1 : Nat} {x4 : Int32} {x2 : Int32} {l0 : Option Value} {l3 : Option Value} (h1 : a1 % 64 = 5) (h2 : (gR σ a1 2).isSome = true) (h3 : (dr (gR σ a1 2)) % 64 = 1) : runF C d m_Scales_mostSwellInside (26, [l0, some (.ref a1), some (.int x2), l3, some (.int x4)], [], σ) = bk C d m_Scales_mostSwellInside 33 [l0, some (.ref a1), some (.int x2), l3, some (.int x4)] [] (C m_Days_timesHeard [.ref (dr (gR σ a1 2)), .int x4, .int x2] σ) := by
  refine (r_aloadn 1 (show decode (zb m_Scales_mostSwellInside) 26 = .ok (.aload_n 1, 1) from by decide +kernel) rfl).trans ?_
  refine (r_getR (show decode (zb m_Scales_mostSwellInside) 27 = .ok (.getfield 75, 3) from by decide +kernel) rfl rfl h1 h2).trans ?_
  refine (r_iload 4 (show decode (zb m_Scales_mostSwellInside) 30 = .ok (.iload 4, 2) from by decide +kernel) rfl).trans ?_
  refine (r_iloadn 2 (show decode (zb m_Scales_mostSwellInside) 32 = .ok (.iload_n 2, 1) from by decide +kernel) rfl).trans ?_
  exact r_virt (args := [.int x4, .int x2]) (rest := []) (show decode (zb m_Scales_mostSwellInside) 33 = .ok (.invokevirtual 108, 3) from by decide +kernel) rfl rfl rfl h3
theorem b_Scales_mostSwellInside_36 {C : CF} {d : Nat} {σ : HP} {s0 : Int32} {l0 : Option Value} {l1 : Option Value} {l2 : Option Value} {l3 : Option Value} {l4 : Option Value}  : runF C d m_Scales_mostSwellInside (36, [l0, l1, l2, l3, l4], [.int s0], σ) = if (9 : Int32) ≤ s0 then runF C d m_Scales_mostSwellInside (53, [l0, l1, l2, l3, l4], [], σ) else runF C d m_Scales_mostSwellInside (41, [l0, l1, l2, l3, l4], [], σ) := by
  refine (r_bipush (v := (9 : Int32)) (show decode (zb m_Scales_mostSwellInside) 36 = .ok (.bipush (9), 2) from by decide +kernel) (by decide)).trans ?_
  exact r_icmp_ge 53 (show decode (zb m_Scales_mostSwellInside) 38 = .ok (.if_icmp .ge (15), 3) from by decide +kernel) rfl
theorem b_Scales_mostSwellInside_41 {C : CF} {d : Nat} {σ : HP} {x3 : Int32} {a1 : Nat} {x4 : Int32} {x2 : Int32} {l0 : Option Value} (h1 : a1 % 64 = 5) : runF C d m_Scales_mostSwellInside (41, [l0, some (.ref a1), some (.int x2), some (.int x3), some (.int x4)], [], σ) = bk C d m_Scales_mostSwellInside 46 [l0, some (.ref a1), some (.int x2), some (.int x3), some (.int x4)] [.int x3] (C m_Lift_swellOf [.ref a1, .int x4, .int x2] σ) := by
  refine (r_iloadn 3 (show decode (zb m_Scales_mostSwellInside) 41 = .ok (.iload_n 3, 1) from by decide +kernel) rfl).trans ?_
  refine (r_aloadn 1 (show decode (zb m_Scales_mostSwellInside) 42 = .ok (.aload_n 1, 1) from by decide +kernel) rfl).trans ?_
  refine (r_iload 4 (show decode (zb m_Scales_mostSwellInside) 43 = .ok (.iload 4, 2) from by decide +kernel) rfl).trans ?_
  refine (r_iloadn 2 (show decode (zb m_Scales_mostSwellInside) 45 = .ok (.iload_n 2, 1) from by decide +kernel) rfl).trans ?_
  exact r_virt (args := [.int x4, .int x2]) (rest := [.int x3]) (show decode (zb m_Scales_mostSwellInside) 46 = .ok (.invokevirtual 111, 3) from by decide +kernel) rfl rfl rfl h1
theorem b_Scales_mostSwellInside_49 {C : CF} {d : Nat} {σ : HP} {s0 : Int32} {s1 : Int32} {l0 : Option Value} {l1 : Option Value} {l2 : Option Value} {l3 : Option Value} {l4 : Option Value}  : runF C d m_Scales_mostSwellInside (49, [l0, l1, l2, l3, l4], [.int s0, .int s1], σ) = runF C d m_Scales_mostSwellInside (53, [l0, l1, l2, some (.int (p_max s1 s0)), l4], [], σ) := by
  refine (r_max (show decode (zb m_Scales_mostSwellInside) 49 = .ok (.invokestatic 61, 3) from by decide +kernel) rfl rfl).trans ?_
  exact r_istoren 3 (show decode (zb m_Scales_mostSwellInside) 52 = .ok (.istore_n 3, 1) from by decide +kernel) rfl
theorem b_Scales_mostSwellInside_53 {C : CF} {d : Nat} {σ : HP} {x4 : Int32} {l0 : Option Value} {l1 : Option Value} {l2 : Option Value} {l3 : Option Value}  : runF C d m_Scales_mostSwellInside (53, [l0, l1, l2, l3, some (.int x4)], [], σ) = runF C d m_Scales_mostSwellInside (5, [l0, l1, l2, l3, some (.int (x4 + (1 : Int32)))], [], σ) := by
  refine (r_iinc 4 (v := (1 : Int32)) (show decode (zb m_Scales_mostSwellInside) 53 = .ok (.iinc 4 (1), 3) from by decide +kernel) rfl rfl (by decide)).trans ?_
  exact r_goto 5 (show decode (zb m_Scales_mostSwellInside) 56 = .ok (.goto (-51), 3) from by decide +kernel) rfl
theorem b_Scales_mostSwellInside_59 {C : CF} {d : Nat} {σ : HP} {x3 : Int32} {l0 : Option Value} {l1 : Option Value} {l2 : Option Value} {l4 : Option Value}  : runF C d m_Scales_mostSwellInside (59, [l0, l1, l2, some (.int x3), l4], [], σ) = some (.inl (some (.int x3)), σ) := by
  refine (r_iloadn 3 (show decode (zb m_Scales_mostSwellInside) 59 = .ok (.iload_n 3, 1) from by decide +kernel) rfl).trans ?_
  exact r_iret (show decode (zb m_Scales_mostSwellInside) 60 = .ok (.ireturn, 1) from by decide +kernel) rfl rfl
theorem e_Scales_swellOfSet {d : Nat} {σ : HP} {a0 : Nat} {x1 : Int32} : callF (d + 1) m_Scales_swellOfSet [.ref a0, .int x1] σ = runF (callF d) d m_Scales_swellOfSet (0, [some (.ref a0), some (.int x1), none, none], [], σ) := callF_in rfl rfl
theorem b_Scales_swellOfSet_0 {C : CF} {d : Nat} {σ : HP} {l0 : Option Value} {l1 : Option Value} {l2 : Option Value} {l3 : Option Value}  : runF C d m_Scales_swellOfSet (0, [l0, l1, l2, l3], [], σ) = runF C d m_Scales_swellOfSet (4, [l0, l1, some (.int ((0 : Int32))), some (.int ((0 : Int32)))], [], σ) := by
  refine (r_iconst (v := (0 : Int32)) (show decode (zb m_Scales_swellOfSet) 0 = .ok (.iconst (0), 1) from by decide +kernel) (by decide)).trans ?_
  refine (r_istoren 2 (show decode (zb m_Scales_swellOfSet) 1 = .ok (.istore_n 2, 1) from by decide +kernel) rfl).trans ?_
  refine (r_iconst (v := (0 : Int32)) (show decode (zb m_Scales_swellOfSet) 2 = .ok (.iconst (0), 1) from by decide +kernel) (by decide)).trans ?_
  exact r_istoren 3 (show decode (zb m_Scales_swellOfSet) 3 = .ok (.istore_n 3, 1) from by decide +kernel) rfl
theorem b_Scales_swellOfSet_4 {C : CF} {d : Nat} {σ : HP} {x3 : Int32} {l0 : Option Value} {l1 : Option Value} {l2 : Option Value}  : runF C d m_Scales_swellOfSet (4, [l0, l1, l2, some (.int x3)], [], σ) = if (8 : Int32) ≤ x3 then runF C d m_Scales_swellOfSet (35, [l0, l1, l2, some (.int x3)], [], σ) else runF C d m_Scales_swellOfSet (10, [l0, l1, l2, some (.int x3)], [], σ) := by
  refine (r_iloadn 3 (show decode (zb m_Scales_swellOfSet) 4 = .ok (.iload_n 3, 1) from by decide +kernel) rfl).trans ?_
  refine (r_bipush (v := (8 : Int32)) (show decode (zb m_Scales_swellOfSet) 5 = .ok (.bipush (8), 2) from by decide +kernel) (by decide)).trans ?_
  exact r_icmp_ge 35 (show decode (zb m_Scales_swellOfSet) 7 = .ok (.if_icmp .ge (28), 3) from by decide +kernel) rfl
theorem b_Scales_swellOfSet_10 {C : CF} {d : Nat} {σ : HP} {x1 : Int32} {x3 : Int32} {l0 : Option Value} {l2 : Option Value}  : runF C d m_Scales_swellOfSet (10, [l0, some (.int x1), l2, some (.int x3)], [], σ) = bkN C d m_Scales_swellOfSet 12 [l0, some (.int x1), l2, some (.int x3)] [] (C m_PL_isIn [.int x1, .int x3] σ) := by
  refine (r_iloadn 1 (show decode (zb m_Scales_swellOfSet) 10 = .ok (.iload_n 1, 1) from by decide +kernel) rfl).trans ?_
  refine (r_iloadn 3 (show decode (zb m_Scales_swellOfSet) 11 = .ok (.iload_n 3, 1) from by decide +kernel) rfl).trans ?_
  exact r_stat (args := [.int x1, .int x3]) (rest := []) (show decode (zb m_Scales_swellOfSet) 12 = .ok (.invokestatic 114, 3) from by decide +kernel) rfl (by decide) rfl rfl
theorem b_Scales_swellOfSet_15 {C : CF} {d : Nat} {σ : HP} {s0 : Int32} {l0 : Option Value} {l1 : Option Value} {l2 : Option Value} {l3 : Option Value}  : runF C d m_Scales_swellOfSet (15, [l0, l1, l2, l3], [.int s0], σ) = if s0 = 0 then runF C d m_Scales_swellOfSet (29, [l0, l1, l2, l3], [], σ) else runF C d m_Scales_swellOfSet (18, [l0, l1, l2, l3], [], σ) := by
  exact r_if_eq 29 (show decode (zb m_Scales_swellOfSet) 15 = .ok (.ifCond .eq (14), 3) from by decide +kernel) rfl
theorem b_Scales_swellOfSet_18 {C : CF} {d : Nat} {σ : HP} {x2 : Int32} {a0 : Nat} {x3 : Int32} {l1 : Option Value} (h1 : a0 % 64 = 8) (h2 : (gR σ a0 2).isSome = true) : runF C d m_Scales_swellOfSet (18, [some (.ref a0), l1, some (.int x2), some (.int x3)], [], σ) = bkN C d m_Scales_swellOfSet 24 [some (.ref a0), l1, some (.int x2), some (.int x3)] [.int x2] (C m_PL_at [.ref (dr (gR σ a0 2)), .int x3] σ) := by
  refine (r_iloadn 2 (show decode (zb m_Scales_swellOfSet) 18 = .ok (.iload_n 2, 1) from by decide +kernel) rfl).trans ?_
  refine (r_aloadn 0 (show decode (zb m_Scales_swellOfSet) 19 = .ok (.aload_n 0, 1) from by decide +kernel) rfl).trans ?_
  refine (r_getR (show decode (zb m_Scales_swellOfSet) 20 = .ok (.getfield 18, 3) from by decide +kernel) rfl rfl h1 h2).trans ?_
  refine (r_iloadn 3 (show decode (zb m_Scales_swellOfSet) 23 = .ok (.iload_n 3, 1) from by decide +kernel) rfl).trans ?_
  exact r_stat (args := [.ref (dr (gR σ a0 2)), .int x3]) (rest := [.int x2]) (show decode (zb m_Scales_swellOfSet) 24 = .ok (.invokestatic 52, 3) from by decide +kernel) rfl (by decide) rfl rfl
theorem b_Scales_swellOfSet_27 {C : CF} {d : Nat} {σ : HP} {s0 : Int32} {s1 : Int32} {l0 : Option Value} {l1 : Option Value} {l2 : Option Value} {l3 : Option Value}  : runF C d m_Scales_swellOfSet (27, [l0, l1, l2, l3], [.int s0, .int s1], σ) = runF C d m_Scales_swellOfSet (29, [l0, l1, some (.int (s1 + s0)), l3], [], σ) := by
  refine (r_iadd (show decode (zb m_Scales_swellOfSet) 27 = .ok (.iadd, 1) from by decide +kernel)).trans ?_
  exact r_istoren 2 (show decode (zb m_Scales_swellOfSet) 28 = .ok (.istore_n 2, 1) from by decide +kernel) rfl
theorem b_Scales_swellOfSet_29 {C : CF} {d : Nat} {σ : HP} {x3 : Int32} {l0 : Option Value} {l1 : Option Value} {l2 : Option Value}  : runF C d m_Scales_swellOfSet (29, [l0, l1, l2, some (.int x3)], [], σ) = runF C d m_Scales_swellOfSet (4, [l0, l1, l2, some (.int (x3 + (1 : Int32)))], [], σ) := by
  refine (r_iinc 3 (v := (1 : Int32)) (show decode (zb m_Scales_swellOfSet) 29 = .ok (.iinc 3 (1), 3) from by decide +kernel) rfl rfl (by decide)).trans ?_
  exact r_goto 4 (show decode (zb m_Scales_swellOfSet) 32 = .ok (.goto (-28), 3) from by decide +kernel) rfl
theorem b_Scales_swellOfSet_35 {C : CF} {d : Nat} {σ : HP} {x2 : Int32} {l0 : Option Value} {l1 : Option Value} {l3 : Option Value}  : runF C d m_Scales_swellOfSet (35, [l0, l1, some (.int x2), l3], [], σ) = some (.inl (some (.int x2)), σ) := by
  refine (r_iloadn 2 (show decode (zb m_Scales_swellOfSet) 35 = .ok (.iload_n 2, 1) from by decide +kernel) rfl).trans ?_
  exact r_iret (show decode (zb m_Scales_swellOfSet) 36 = .ok (.ireturn, 1) from by decide +kernel) rfl rfl
theorem e_Scales_bestCouple {d : Nat} {σ : HP} {a0 : Nat} {a1 : Nat} : callF (d + 1) m_Scales_bestCouple [.ref a0, .ref a1] σ = runF (callF d) d m_Scales_bestCouple (0, [some (.ref a0), some (.ref a1), none, none, none, none, none], [], σ) := callF_in rfl rfl
theorem b_Scales_bestCouple_0 {C : CF} {d : Nat} {σ : HP} {l0 : Option Value} {l1 : Option Value} {l2 : Option Value} {l3 : Option Value} {l4 : Option Value} {l5 : Option Value} {l6 : Option Value}  : runF C d m_Scales_bestCouple (0, [l0, l1, l2, l3, l4, l5, l6], [], σ) = runF C d m_Scales_bestCouple (7, [l0, l1, some (.int ((-1 : Int32))), some (.int ((0 : Int32))), some (.int ((0 : Int32))), l5, l6], [], σ) := by
  refine (r_iconst (v := (-1 : Int32)) (show decode (zb m_Scales_bestCouple) 0 = .ok (.iconst (-1), 1) from by decide +kernel) (by decide)).trans ?_
  refine (r_istoren 2 (show decode (zb m_Scales_bestCouple) 1 = .ok (.istore_n 2, 1) from by decide +kernel) rfl).trans ?_
  refine (r_iconst (v := (0 : Int32)) (show decode (zb m_Scales_bestCouple) 2 = .ok (.iconst (0), 1) from by decide +kernel) (by decide)).trans ?_
  refine (r_istoren 3 (show decode (zb m_Scales_bestCouple) 3 = .ok (.istore_n 3, 1) from by decide +kernel) rfl).trans ?_
  refine (r_iconst (v := (0 : Int32)) (show decode (zb m_Scales_bestCouple) 4 = .ok (.iconst (0), 1) from by decide +kernel) (by decide)).trans ?_
  exact r_istore 4 (show decode (zb m_Scales_bestCouple) 5 = .ok (.istore 4, 2) from by decide +kernel) rfl
theorem b_Scales_bestCouple_7 {C : CF} {d : Nat} {σ : HP} {x4 : Int32} {a1 : Nat} {l0 : Option Value} {l2 : Option Value} {l3 : Option Value} {l5 : Option Value} {l6 : Option Value} (h1 : a1 % 64 = 5) (h2 : (gR σ a1 0).isSome = true) (h3 : (dr (gR σ a1 0)) % 64 = 2) : runF C d m_Scales_bestCouple (7, [l0, some (.ref a1), l2, l3, some (.int x4), l5, l6], [], σ) = if (gI σ (dr (gR σ a1 0)) 1) ≤ x4 then runF C d m_Scales_bestCouple (83, [l0, some (.ref a1), l2, l3, some (.int x4), l5, l6], [], σ) else runF C d m_Scales_bestCouple (19, [l0, some (.ref a1), l2, l3, some (.int x4), l5, l6], [], σ) := by
  refine (r_iload 4 (show decode (zb m_Scales_bestCouple) 7 = .ok (.iload 4, 2) from by decide +kernel) rfl).trans ?_
  refine (r_aloadn 1 (show decode (zb m_Scales_bestCouple) 9 = .ok (.aload_n 1, 1) from by decide +kernel) rfl).trans ?_
  refine (r_getR (show decode (zb m_Scales_bestCouple) 10 = .ok (.getfield 25, 3) from by decide +kernel) rfl rfl h1 h2).trans ?_
  refine (r_getI (show decode (zb m_Scales_bestCouple) 13 = .ok (.getfield 31, 3) from by decide +kernel) rfl rfl h3).trans ?_
  exact r_icmp_ge 83 (show decode (zb m_Scales_bestCouple) 16 = .ok (.if_icmp .ge (67), 3) from by decide +kernel) rfl
theorem b_Scales_bestCouple_19 {C : CF} {d : Nat} {σ : HP} {x4 : Int32} {l0 : Option Value} {l1 : Option Value} {l2 : Option Value} {l3 : Option Value} {l5 : Option Value} {l6 : Option Value}  : runF C d m_Scales_bestCouple (19, [l0, l1, l2, l3, some (.int x4), l5, l6], [], σ) = runF C d m_Scales_bestCouple (25, [l0, l1, l2, l3, some (.int x4), some (.int (x4 + (1 : Int32))), l6], [], σ) := by
  refine (r_iload 4 (show decode (zb m_Scales_bestCouple) 19 = .ok (.iload 4, 2) from by decide +kernel) rfl).trans ?_
  refine (r_iconst (v := (1 : Int32)) (show decode (zb m_Scales_bestCouple) 21 = .ok (.iconst (1), 1) from by decide +kernel) (by decide)).trans ?_
  refine (r_iadd (show decode (zb m_Scales_bestCouple) 22 = .ok (.iadd, 1) from by decide +kernel)).trans ?_
  exact r_istore 5 (show decode (zb m_Scales_bestCouple) 23 = .ok (.istore 5, 2) from by decide +kernel) rfl
theorem b_Scales_bestCouple_25 {C : CF} {d : Nat} {σ : HP} {x5 : Int32} {a1 : Nat} {l0 : Option Value} {l2 : Option Value} {l3 : Option Value} {l4 : Option Value} {l6 : Option Value} (h1 : a1 % 64 = 5) (h2 : (gR σ a1 0).isSome = true) (h3 : (dr (gR σ a1 0)) % 64 = 2) : runF C d m_Scales_bestCouple (25, [l0, some (.ref a1), l2, l3, l4, some (.int x5), l6], [], σ) = if (gI σ (dr (gR σ a1 0)) 1) ≤ x5 then runF C d m_Scales_bestCouple (77, [l0, some (.ref a1), l2, l3, l4, some (.int x5), l6], [], σ) else runF C d m_Scales_bestCouple (37, [l0, some (.ref a1), l2, l3, l4, some (.int x5), l6], [], σ) := by
  refine (r_iload 5 (show decode (zb m_Scales_bestCouple) 25 = .ok (.iload 5, 2) from by decide +kernel) rfl).trans ?_
  refine (r_aloadn 1 (show decode (zb m_Scales_bestCouple) 27 = .ok (.aload_n 1, 1) from by decide +kernel) rfl).trans ?_
  refine (r_getR (show decode (zb m_Scales_bestCouple) 28 = .ok (.getfield 25, 3) from by decide +kernel) rfl rfl h1 h2).trans ?_
  refine (r_getI (show decode (zb m_Scales_bestCouple) 31 = .ok (.getfield 31, 3) from by decide +kernel) rfl rfl h3).trans ?_
  exact r_icmp_ge 77 (show decode (zb m_Scales_bestCouple) 34 = .ok (.if_icmp .ge (43), 3) from by decide +kernel) rfl
theorem b_Scales_bestCouple_37 {C : CF} {d : Nat} {σ : HP} {a0 : Nat} {a1 : Nat} {x4 : Int32} {x5 : Int32} {l2 : Option Value} {l3 : Option Value} {l6 : Option Value} (h1 : a0 % 64 = 8) : runF C d m_Scales_bestCouple (37, [some (.ref a0), some (.ref a1), l2, l3, some (.int x4), some (.int x5), l6], [], σ) = bk C d m_Scales_bestCouple 43 [some (.ref a0), some (.ref a1), l2, l3, some (.int x4), some (.int x5), l6] [] (C m_Scales_coupleApart [.ref a0, .ref a1, .int x4, .int x5] σ) := by
  refine (r_aloadn 0 (show decode (zb m_Scales_bestCouple) 37 = .ok (.aload_n 0, 1) from by decide +kernel) rfl).trans ?_
  refine (r_aloadn 1 (show decode (zb m_Scales_bestCouple) 38 = .ok (.aload_n 1, 1) from by decide +kernel) rfl).trans ?_
  refine (r_iload 4 (show decode (zb m_Scales_bestCouple) 39 = .ok (.iload 4, 2) from by decide +kernel) rfl).trans ?_
  refine (r_iload 5 (show decode (zb m_Scales_bestCouple) 41 = .ok (.iload 5, 2) from by decide +kernel) rfl).trans ?_
  exact r_virt (args := [.ref a1, .int x4, .int x5]) (rest := []) (show decode (zb m_Scales_bestCouple) 43 = .ok (.invokevirtual 66, 3) from by decide +kernel) rfl rfl rfl h1
theorem b_Scales_bestCouple_46 {C : CF} {d : Nat} {σ : HP} {s0 : Int32} {x2 : Int32} {l0 : Option Value} {l1 : Option Value} {l3 : Option Value} {l4 : Option Value} {l5 : Option Value} {l6 : Option Value}  : runF C d m_Scales_bestCouple (46, [l0, l1, some (.int x2), l3, l4, l5, l6], [.int s0], σ) = if x2 = (-1 : Int32) then runF C d m_Scales_bestCouple (59, [l0, l1, some (.int x2), l3, l4, l5, some (.int s0)], [], σ) else runF C d m_Scales_bestCouple (53, [l0, l1, some (.int x2), l3, l4, l5, some (.int s0)], [], σ) := by
  refine (r_istore 6 (show decode (zb m_Scales_bestCouple) 46 = .ok (.istore 6, 2) from by decide +kernel) rfl).trans ?_
  refine (r_iloadn 2 (show decode (zb m_Scales_bestCouple) 48 = .ok (.iload_n 2, 1) from by decide +kernel) rfl).trans ?_
  refine (r_iconst (v := (-1 : Int32)) (show decode (zb m_Scales_bestCouple) 49 = .ok (.iconst (-1), 1) from by decide +kernel) (by decide)).trans ?_
  exact r_icmp_eq 59 (show decode (zb m_Scales_bestCouple) 50 = .ok (.if_icmp .eq (9), 3) from by decide +kernel) rfl
theorem b_Scales_bestCouple_53 {C : CF} {d : Nat} {σ : HP} {x6 : Int32} {x3 : Int32} {l0 : Option Value} {l1 : Option Value} {l2 : Option Value} {l4 : Option Value} {l5 : Option Value}  : runF C d m_Scales_bestCouple (53, [l0, l1, l2, some (.int x3), l4, l5, some (.int x6)], [], σ) = if x3 ≤ x6 then runF C d m_Scales_bestCouple (71, [l0, l1, l2, some (.int x3), l4, l5, some (.int x6)], [], σ) else runF C d m_Scales_bestCouple (59, [l0, l1, l2, some (.int x3), l4, l5, some (.int x6)], [], σ) := by
  refine (r_iload 6 (show decode (zb m_Scales_bestCouple) 53 = .ok (.iload 6, 2) from by decide +kernel) rfl).trans ?_
  refine (r_iloadn 3 (show decode (zb m_Scales_bestCouple) 55 = .ok (.iload_n 3, 1) from by decide +kernel) rfl).trans ?_
  exact r_icmp_ge 71 (show decode (zb m_Scales_bestCouple) 56 = .ok (.if_icmp .ge (15), 3) from by decide +kernel) rfl
theorem b_Scales_bestCouple_59 {C : CF} {d : Nat} {σ : HP} {x4 : Int32} {x5 : Int32} {x6 : Int32} {l0 : Option Value} {l1 : Option Value} {l2 : Option Value} {l3 : Option Value}  : runF C d m_Scales_bestCouple (59, [l0, l1, l2, l3, some (.int x4), some (.int x5), some (.int x6)], [], σ) = runF C d m_Scales_bestCouple (71, [l0, l1, some (.int (((10 : Int32) * x4) + x5)), some (.int x6), some (.int x4), some (.int x5), some (.int x6)], [], σ) := by
  refine (r_bipush (v := (10 : Int32)) (show decode (zb m_Scales_bestCouple) 59 = .ok (.bipush (10), 2) from by decide +kernel) (by decide)).trans ?_
  refine (r_iload 4 (show decode (zb m_Scales_bestCouple) 61 = .ok (.iload 4, 2) from by decide +kernel) rfl).trans ?_
  refine (r_imul (show decode (zb m_Scales_bestCouple) 63 = .ok (.imul, 1) from by decide +kernel)).trans ?_
  refine (r_iload 5 (show decode (zb m_Scales_bestCouple) 64 = .ok (.iload 5, 2) from by decide +kernel) rfl).trans ?_
  refine (r_iadd (show decode (zb m_Scales_bestCouple) 66 = .ok (.iadd, 1) from by decide +kernel)).trans ?_
  refine (r_istoren 2 (show decode (zb m_Scales_bestCouple) 67 = .ok (.istore_n 2, 1) from by decide +kernel) rfl).trans ?_
  refine (r_iload 6 (show decode (zb m_Scales_bestCouple) 68 = .ok (.iload 6, 2) from by decide +kernel) rfl).trans ?_
  exact r_istoren 3 (show decode (zb m_Scales_bestCouple) 70 = .ok (.istore_n 3, 1) from by decide +kernel) rfl
theorem b_Scales_bestCouple_71 {C : CF} {d : Nat} {σ : HP} {x5 : Int32} {l0 : Option Value} {l1 : Option Value} {l2 : Option Value} {l3 : Option Value} {l4 : Option Value} {l6 : Option Value}  : runF C d m_Scales_bestCouple (71, [l0, l1, l2, l3, l4, some (.int x5), l6], [], σ) = runF C d m_Scales_bestCouple (25, [l0, l1, l2, l3, l4, some (.int (x5 + (1 : Int32))), l6], [], σ) := by
  refine (r_iinc 5 (v := (1 : Int32)) (show decode (zb m_Scales_bestCouple) 71 = .ok (.iinc 5 (1), 3) from by decide +kernel) rfl rfl (by decide)).trans ?_
  exact r_goto 25 (show decode (zb m_Scales_bestCouple) 74 = .ok (.goto (-49), 3) from by decide +kernel) rfl
theorem b_Scales_bestCouple_77 {C : CF} {d : Nat} {σ : HP} {x4 : Int32} {l0 : Option Value} {l1 : Option Value} {l2 : Option Value} {l3 : Option Value} {l5 : Option Value} {l6 : Option Value}  : runF C d m_Scales_bestCouple (77, [l0, l1, l2, l3, some (.int x4), l5, l6], [], σ) = runF C d m_Scales_bestCouple (7, [l0, l1, l2, l3, some (.int (x4 + (1 : Int32))), l5, l6], [], σ) := by
  refine (r_iinc 4 (v := (1 : Int32)) (show decode (zb m_Scales_bestCouple) 77 = .ok (.iinc 4 (1), 3) from by decide +kernel) rfl rfl (by decide)).trans ?_
  exact r_goto 7 (show decode (zb m_Scales_bestCouple) 80 = .ok (.goto (-73), 3) from by decide +kernel) rfl
theorem b_Scales_bestCouple_83 {C : CF} {d : Nat} {σ : HP} {x2 : Int32} {l0 : Option Value} {l1 : Option Value} {l3 : Option Value} {l4 : Option Value} {l5 : Option Value} {l6 : Option Value}  : runF C d m_Scales_bestCouple (83, [l0, l1, some (.int x2), l3, l4, l5, l6], [], σ) = some (.inl (some (.int x2)), σ) := by
  refine (r_iloadn 2 (show decode (zb m_Scales_bestCouple) 83 = .ok (.iload_n 2, 1) from by decide +kernel) rfl).trans ?_
  exact r_iret (show decode (zb m_Scales_bestCouple) 84 = .ok (.ireturn, 1) from by decide +kernel) rfl rfl
theorem e_Scales_coupleApart {d : Nat} {σ : HP} {a0 : Nat} {a1 : Nat} {x2 : Int32} {x3 : Int32} : callF (d + 1) m_Scales_coupleApart [.ref a0, .ref a1, .int x2, .int x3] σ = runF (callF d) d m_Scales_coupleApart (0, [some (.ref a0), some (.ref a1), some (.int x2), some (.int x3)], [], σ) := callF_in rfl rfl
theorem b_Scales_coupleApart_0 {C : CF} {d : Nat} {σ : HP} {a1 : Nat} {x2 : Int32} {l0 : Option Value} {l3 : Option Value} (h1 : a1 % 64 = 5) : runF C d m_Scales_coupleApart (0, [l0, some (.ref a1), some (.int x2), l3], [], σ) = bk C d m_Scales_coupleApart 2 [l0, some (.ref a1), some (.int x2), l3] [] (C m_Lift_heavyOf [.ref a1, .int x2] σ) := by
  refine (r_aloadn 1 (show decode (zb m_Scales_coupleApart) 0 = .ok (.aload_n 1, 1) from by decide +kernel) rfl).trans ?_
  refine (r_iloadn 2 (show decode (zb m_Scales_coupleApart) 1 = .ok (.iload_n 2, 1) from by decide +kernel) rfl).trans ?_
  exact r_virt (args := [.int x2]) (rest := []) (show decode (zb m_Scales_coupleApart) 2 = .ok (.invokevirtual 70, 3) from by decide +kernel) rfl rfl rfl h1
theorem b_Scales_coupleApart_5 {C : CF} {d : Nat} {σ : HP} {s0 : Int32} {a1 : Nat} {x3 : Int32} {l0 : Option Value} {l2 : Option Value} (h1 : a1 % 64 = 5) : runF C d m_Scales_coupleApart (5, [l0, some (.ref a1), l2, some (.int x3)], [.int s0], σ) = bk C d m_Scales_coupleApart 7 [l0, some (.ref a1), l2, some (.int x3)] [.int s0] (C m_Lift_heavyOf [.ref a1, .int x3] σ) := by
  refine (r_aloadn 1 (show decode (zb m_Scales_coupleApart) 5 = .ok (.aload_n 1, 1) from by decide +kernel) rfl).trans ?_
  refine (r_iloadn 3 (show decode (zb m_Scales_coupleApart) 6 = .ok (.iload_n 3, 1) from by decide +kernel) rfl).trans ?_
  exact r_virt (args := [.int x3]) (rest := [.int s0]) (show decode (zb m_Scales_coupleApart) 7 = .ok (.invokevirtual 70, 3) from by decide +kernel) rfl rfl rfl h1
theorem b_Scales_coupleApart_10 {C : CF} {d : Nat} {σ : HP} {s0 : Int32} {s1 : Int32} {a1 : Nat} {l0 : Option Value} {l2 : Option Value} {l3 : Option Value} (h1 : a1 % 64 = 5) (h2 : (gR σ a1 0).isSome = true) (h3 : (dr (gR σ a1 0)) % 64 = 2) : runF C d m_Scales_coupleApart (10, [l0, some (.ref a1), l2, l3], [.int s0, .int s1], σ) = some (.inl (some (.int (p_abs ((s1 + s0) - (gI σ (dr (gR σ a1 0)) 3))))), σ) := by
  refine (r_iadd (show decode (zb m_Scales_coupleApart) 10 = .ok (.iadd, 1) from by decide +kernel)).trans ?_
  refine (r_aloadn 1 (show decode (zb m_Scales_coupleApart) 11 = .ok (.aload_n 1, 1) from by decide +kernel) rfl).trans ?_
  refine (r_getR (show decode (zb m_Scales_coupleApart) 12 = .ok (.getfield 25, 3) from by decide +kernel) rfl rfl h1 h2).trans ?_
  refine (r_getI (show decode (zb m_Scales_coupleApart) 15 = .ok (.getfield 45, 3) from by decide +kernel) rfl rfl h3).trans ?_
  refine (r_isub (show decode (zb m_Scales_coupleApart) 18 = .ok (.isub, 1) from by decide +kernel)).trans ?_
  refine (r_abs (show decode (zb m_Scales_coupleApart) 19 = .ok (.invokestatic 72, 3) from by decide +kernel) rfl rfl).trans ?_
  exact r_iret (show decode (zb m_Scales_coupleApart) 22 = .ok (.ireturn, 1) from by decide +kernel) rfl rfl
theorem e_Scales_cheapestCard {d : Nat} {σ : HP} {a0 : Nat} {a1 : Nat} {x2 : Int32} : callF (d + 1) m_Scales_cheapestCard [.ref a0, .ref a1, .int x2] σ = runF (callF d) d m_Scales_cheapestCard (0, [some (.ref a0), some (.ref a1), some (.int x2), none, none, none, none, none], [], σ) := callF_in rfl rfl
theorem b_Scales_cheapestCard_0 {C : CF} {d : Nat} {σ : HP} {a1 : Nat} {x2 : Int32} {l0 : Option Value} {l3 : Option Value} {l4 : Option Value} {l5 : Option Value} {l6 : Option Value} {l7 : Option Value} (h1 : a1 % 64 = 5) (h2 : (gR σ a1 2).isSome = true) (h3 : (dr (gR σ a1 2)) % 64 = 1) : runF C d m_Scales_cheapestCard (0, [l0, some (.ref a1), some (.int x2), l3, l4, l5, l6, l7], [], σ) = bk C d m_Scales_cheapestCard 12 [l0, some (.ref a1), some (.int x2), l3, l4, l5, l6, l7] [] (C m_Lift_heavyOfSet [.ref a1, .int ((gI σ (dr (gR σ a1 2)) 2) ||| (p_shl (1 : Int32) x2))] σ) := by
  refine (r_aloadn 1 (show decode (zb m_Scales_cheapestCard) 0 = .ok (.aload_n 1, 1) from by decide +kernel) rfl).trans ?_
  refine (r_aloadn 1 (show decode (zb m_Scales_cheapestCard) 1 = .ok (.aload_n 1, 1) from by decide +kernel) rfl).trans ?_
  refine (r_getR (show decode (zb m_Scales_cheapestCard) 2 = .ok (.getfield 75, 3) from by decide +kernel) rfl rfl h1 h2).trans ?_
  refine (r_getI (show decode (zb m_Scales_cheapestCard) 5 = .ok (.getfield 79, 3) from by decide +kernel) rfl rfl h3).trans ?_
  refine (r_iconst (v := (1 : Int32)) (show decode (zb m_Scales_cheapestCard) 8 = .ok (.iconst (1), 1) from by decide +kernel) (by decide)).trans ?_
  refine (r_iloadn 2 (show decode (zb m_Scales_cheapestCard) 9 = .ok (.iload_n 2, 1) from by decide +kernel) rfl).trans ?_
  refine (r_ishl (show decode (zb m_Scales_cheapestCard) 10 = .ok (.ishl, 1) from by decide +kernel)).trans ?_
  refine (r_ior (show decode (zb m_Scales_cheapestCard) 11 = .ok (.ior, 1) from by decide +kernel)).trans ?_
  exact r_virt (args := [.int ((gI σ (dr (gR σ a1 2)) 2) ||| (p_shl (1 : Int32) x2))]) (rest := []) (show decode (zb m_Scales_cheapestCard) 12 = .ok (.invokevirtual 37, 3) from by decide +kernel) rfl rfl rfl h1
theorem b_Scales_cheapestCard_15 {C : CF} {d : Nat} {σ : HP} {s0 : Int32} {l0 : Option Value} {l1 : Option Value} {l2 : Option Value} {l3 : Option Value} {l4 : Option Value} {l5 : Option Value} {l6 : Option Value} {l7 : Option Value}  : runF C d m_Scales_cheapestCard (15, [l0, l1, l2, l3, l4, l5, l6, l7], [.int s0], σ) = runF C d m_Scales_cheapestCard (25, [l0, l1, l2, some (.int s0), some (.int ((-1 : Int32))), some (.int ((0 : Int32))), some (.int ((0 : Int32))), l7], [], σ) := by
  refine (r_istoren 3 (show decode (zb m_Scales_cheapestCard) 15 = .ok (.istore_n 3, 1) from by decide +kernel) rfl).trans ?_
  refine (r_iconst (v := (-1 : Int32)) (show decode (zb m_Scales_cheapestCard) 16 = .ok (.iconst (-1), 1) from by decide +kernel) (by decide)).trans ?_
  refine (r_istore 4 (show decode (zb m_Scales_cheapestCard) 17 = .ok (.istore 4, 2) from by decide +kernel) rfl).trans ?_
  refine (r_iconst (v := (0 : Int32)) (show decode (zb m_Scales_cheapestCard) 19 = .ok (.iconst (0), 1) from by decide +kernel) (by decide)).trans ?_
  refine (r_istore 5 (show decode (zb m_Scales_cheapestCard) 20 = .ok (.istore 5, 2) from by decide +kernel) rfl).trans ?_
  refine (r_iconst (v := (0 : Int32)) (show decode (zb m_Scales_cheapestCard) 22 = .ok (.iconst (0), 1) from by decide +kernel) (by decide)).trans ?_
  exact r_istore 6 (show decode (zb m_Scales_cheapestCard) 23 = .ok (.istore 6, 2) from by decide +kernel) rfl
theorem b_Scales_cheapestCard_25 {C : CF} {d : Nat} {σ : HP} {x6 : Int32} {a1 : Nat} {l0 : Option Value} {l2 : Option Value} {l3 : Option Value} {l4 : Option Value} {l5 : Option Value} {l7 : Option Value} (h1 : a1 % 64 = 5) (h2 : (gR σ a1 0).isSome = true) (h3 : (dr (gR σ a1 0)) % 64 = 2) : runF C d m_Scales_cheapestCard (25, [l0, some (.ref a1), l2, l3, l4, l5, some (.int x6), l7], [], σ) = if (gI σ (dr (gR σ a1 0)) 2) ≤ x6 then runF C d m_Scales_cheapestCard (105, [l0, some (.ref a1), l2, l3, l4, l5, some (.int x6), l7], [], σ) else runF C d m_Scales_cheapestCard (37, [l0, some (.ref a1), l2, l3, l4, l5, some (.int x6), l7], [], σ) := by
  refine (r_iload 6 (show decode (zb m_Scales_cheapestCard) 25 = .ok (.iload 6, 2) from by decide +kernel) rfl).trans ?_
  refine (r_aloadn 1 (show decode (zb m_Scales_cheapestCard) 27 = .ok (.aload_n 1, 1) from by decide +kernel) rfl).trans ?_
  refine (r_getR (show decode (zb m_Scales_cheapestCard) 28 = .ok (.getfield 25, 3) from by decide +kernel) rfl rfl h1 h2).trans ?_
  refine (r_getI (show decode (zb m_Scales_cheapestCard) 31 = .ok (.getfield 84, 3) from by decide +kernel) rfl rfl h3).trans ?_
  exact r_icmp_ge 105 (show decode (zb m_Scales_cheapestCard) 34 = .ok (.if_icmp .ge (71), 3) from by decide +kernel) rfl
theorem b_Scales_cheapestCard_37 {C : CF} {d : Nat} {σ : HP} {a1 : Nat} {x2 : Int32} {x6 : Int32} {l0 : Option Value} {l3 : Option Value} {l4 : Option Value} {l5 : Option Value} {l7 : Option Value} (h1 : a1 % 64 = 5) (h2 : (gR σ a1 2).isSome = true) (h3 : (dr (gR σ a1 2)) % 64 = 1) : runF C d m_Scales_cheapestCard (37, [l0, some (.ref a1), some (.int x2), l3, l4, l5, some (.int x6), l7], [], σ) = bk C d m_Scales_cheapestCard 44 [l0, some (.ref a1), some (.int x2), l3, l4, l5, some (.int x6), l7] [] (C m_Days_timesHeard [.ref (dr (gR σ a1 2)), .int x2, .int x6] σ) := by
  refine (r_aloadn 1 (show decode (zb m_Scales_cheapestCard) 37 = .ok (.aload_n 1, 1) from by decide +kernel) rfl).trans ?_
  refine (r_getR (show decode (zb m_Scales_cheapestCard) 38 = .ok (.getfield 75, 3) from by decide +kernel) rfl rfl h1 h2).trans ?_
  refine (r_iloadn 2 (show decode (zb m_Scales_cheapestCard) 41 = .ok (.iload_n 2, 1) from by decide +kernel) rfl).trans ?_
  refine (r_iload 6 (show decode (zb m_Scales_cheapestCard) 42 = .ok (.iload 6, 2) from by decide +kernel) rfl).trans ?_
  exact r_virt (args := [.int x2, .int x6]) (rest := []) (show decode (zb m_Scales_cheapestCard) 44 = .ok (.invokevirtual 108, 3) from by decide +kernel) rfl rfl rfl h3
theorem b_Scales_cheapestCard_47 {C : CF} {d : Nat} {σ : HP} {s0 : Int32} {l0 : Option Value} {l1 : Option Value} {l2 : Option Value} {l3 : Option Value} {l4 : Option Value} {l5 : Option Value} {l6 : Option Value} {l7 : Option Value}  : runF C d m_Scales_cheapestCard (47, [l0, l1, l2, l3, l4, l5, l6, l7], [.int s0], σ) = if s0 < (9 : Int32) then runF C d m_Scales_cheapestCard (55, [l0, l1, l2, l3, l4, l5, l6, l7], [], σ) else runF C d m_Scales_cheapestCard (52, [l0, l1, l2, l3, l4, l5, l6, l7], [], σ) := by
  refine (r_bipush (v := (9 : Int32)) (show decode (zb m_Scales_cheapestCard) 47 = .ok (.bipush (9), 2) from by decide +kernel) (by decide)).trans ?_
  exact r_icmp_lt 55 (show decode (zb m_Scales_cheapestCard) 49 = .ok (.if_icmp .lt (6), 3) from by decide +kernel) rfl
theorem b_Scales_cheapestCard_52 {C : CF} {d : Nat} {σ : HP} {l0 : Option Value} {l1 : Option Value} {l2 : Option Value} {l3 : Option Value} {l4 : Option Value} {l5 : Option Value} {l6 : Option Value} {l7 : Option Value}  : runF C d m_Scales_cheapestCard (52, [l0, l1, l2, l3, l4, l5, l6, l7], [], σ) = runF C d m_Scales_cheapestCard (99, [l0, l1, l2, l3, l4, l5, l6, l7], [], σ) := by
  exact r_goto 99 (show decode (zb m_Scales_cheapestCard) 52 = .ok (.goto (47), 3) from by decide +kernel) rfl
theorem b_Scales_cheapestCard_55 {C : CF} {d : Nat} {σ : HP} {a1 : Nat} {x2 : Int32} {x6 : Int32} {l0 : Option Value} {l3 : Option Value} {l4 : Option Value} {l5 : Option Value} {l7 : Option Value} (h1 : a1 % 64 = 5) : runF C d m_Scales_cheapestCard (55, [l0, some (.ref a1), some (.int x2), l3, l4, l5, some (.int x6), l7], [], σ) = bk C d m_Scales_cheapestCard 59 [l0, some (.ref a1), some (.int x2), l3, l4, l5, some (.int x6), l7] [] (C m_Lift_swellOf [.ref a1, .int x2, .int x6] σ) := by
  refine (r_aloadn 1 (show decode (zb m_Scales_cheapestCard) 55 = .ok (.aload_n 1, 1) from by decide +kernel) rfl).trans ?_
  refine (r_iloadn 2 (show decode (zb m_Scales_cheapestCard) 56 = .ok (.iload_n 2, 1) from by decide +kernel) rfl).trans ?_
  refine (r_iload 6 (show decode (zb m_Scales_cheapestCard) 57 = .ok (.iload 6, 2) from by decide +kernel) rfl).trans ?_
  exact r_virt (args := [.int x2, .int x6]) (rest := []) (show decode (zb m_Scales_cheapestCard) 59 = .ok (.invokevirtual 111, 3) from by decide +kernel) rfl rfl rfl h1
theorem b_Scales_cheapestCard_62 {C : CF} {d : Nat} {σ : HP} {s0 : Int32} {x3 : Int32} {a1 : Nat} {l0 : Option Value} {l2 : Option Value} {l4 : Option Value} {l5 : Option Value} {l6 : Option Value} {l7 : Option Value} (h1 : a1 % 64 = 5) (h2 : (gR σ a1 0).isSome = true) (h3 : (dr (gR σ a1 0)) % 64 = 2) : runF C d m_Scales_cheapestCard (62, [l0, some (.ref a1), l2, some (.int x3), l4, l5, l6, l7], [.int s0], σ) = if (x3 + s0) ≤ (gI σ (dr (gR σ a1 0)) 3) then runF C d m_Scales_cheapestCard (99, [l0, some (.ref a1), l2, some (.int x3), l4, l5, l6, some (.int s0)], [], σ) else runF C d m_Scales_cheapestCard (78, [l0, some (.ref a1), l2, some (.int x3), l4, l5, l6, some (.int s0)], [], σ) := by
  refine (r_istore 7 (show decode (zb m_Scales_cheapestCard) 62 = .ok (.istore 7, 2) from by decide +kernel) rfl).trans ?_
  refine (r_iloadn 3 (show decode (zb m_Scales_cheapestCard) 64 = .ok (.iload_n 3, 1) from by decide +kernel) rfl).trans ?_
  refine (r_iload 7 (show decode (zb m_Scales_cheapestCard) 65 = .ok (.iload 7, 2) from by decide +kernel) rfl).trans ?_
  refine (r_iadd (show decode (zb m_Scales_cheapestCard) 67 = .ok (.iadd, 1) from by decide +kernel)).trans ?_
  refine (r_aloadn 1 (show decode (zb m_Scales_cheapestCard) 68 = .ok (.aload_n 1, 1) from by decide +kernel) rfl).trans ?_
  refine (r_getR (show decode (zb m_Scales_cheapestCard) 69 = .ok (.getfield 25, 3) from by decide +kernel) rfl rfl h1 h2).trans ?_
  refine (r_getI (show decode (zb m_Scales_cheapestCard) 72 = .ok (.getfield 45, 3) from by decide +kernel) rfl rfl h3).trans ?_
  exact r_icmp_le 99 (show decode (zb m_Scales_cheapestCard) 75 = .ok (.if_icmp .le (24), 3) from by decide +kernel) rfl
theorem b_Scales_cheapestCard_78 {C : CF} {d : Nat} {σ : HP} {x4 : Int32} {l0 : Option Value} {l1 : Option Value} {l2 : Option Value} {l3 : Option Value} {l5 : Option Value} {l6 : Option Value} {l7 : Option Value}  : runF C d m_Scales_cheapestCard (78, [l0, l1, l2, l3, some (.int x4), l5, l6, l7], [], σ) = if x4 = (-1 : Int32) then runF C d m_Scales_cheapestCard (91, [l0, l1, l2, l3, some (.int x4), l5, l6, l7], [], σ) else runF C d m_Scales_cheapestCard (84, [l0, l1, l2, l3, some (.int x4), l5, l6, l7], [], σ) := by
  refine (r_iload 4 (show decode (zb m_Scales_cheapestCard) 78 = .ok (.iload 4, 2) from by decide +kernel) rfl).trans ?_
  refine (r_iconst (v := (-1 : Int32)) (show decode (zb m_Scales_cheapestCard) 80 = .ok (.iconst (-1), 1) from by decide +kernel) (by decide)).trans ?_
  exact r_icmp_eq 91 (show decode (zb m_Scales_cheapestCard) 81 = .ok (.if_icmp .eq (10), 3) from by decide +kernel) rfl
theorem b_Scales_cheapestCard_84 {C : CF} {d : Nat} {σ : HP} {x7 : Int32} {x5 : Int32} {l0 : Option Value} {l1 : Option Value} {l2 : Option Value} {l3 : Option Value} {l4 : Option Value} {l6 : Option Value}  : runF C d m_Scales_cheapestCard (84, [l0, l1, l2, l3, l4, some (.int x5), l6, some (.int x7)], [], σ) = if x5 ≤ x7 then runF C d m_Scales_cheapestCard (99, [l0, l1, l2, l3, l4, some (.int x5), l6, some (.int x7)], [], σ) else runF C d m_Scales_cheapestCard (91, [l0, l1, l2, l3, l4, some (.int x5), l6, some (.int x7)], [], σ) := by
  refine (r_iload 7 (show decode (zb m_Scales_cheapestCard) 84 = .ok (.iload 7, 2) from by decide +kernel) rfl).trans ?_
  refine (r_iload 5 (show decode (zb m_Scales_cheapestCard) 86 = .ok (.iload 5, 2) from by decide +kernel) rfl).trans ?_
  exact r_icmp_ge 99 (show decode (zb m_Scales_cheapestCard) 88 = .ok (.if_icmp .ge (11), 3) from by decide +kernel) rfl
theorem b_Scales_cheapestCard_91 {C : CF} {d : Nat} {σ : HP} {x6 : Int32} {x7 : Int32} {l0 : Option Value} {l1 : Option Value} {l2 : Option Value} {l3 : Option Value} {l4 : Option Value} {l5 : Option Value}  : runF C d m_Scales_cheapestCard (91, [l0, l1, l2, l3, l4, l5, some (.int x6), some (.int x7)], [], σ) = runF C d m_Scales_cheapestCard (99, [l0, l1, l2, l3, some (.int x6), some (.int x7), some (.int x6), some (.int x7)], [], σ) := by
  refine (r_iload 6 (show decode (zb m_Scales_cheapestCard) 91 = .ok (.iload 6, 2) from by decide +kernel) rfl).trans ?_
  refine (r_istore 4 (show decode (zb m_Scales_cheapestCard) 93 = .ok (.istore 4, 2) from by decide +kernel) rfl).trans ?_
  refine (r_iload 7 (show decode (zb m_Scales_cheapestCard) 95 = .ok (.iload 7, 2) from by decide +kernel) rfl).trans ?_
  exact r_istore 5 (show decode (zb m_Scales_cheapestCard) 97 = .ok (.istore 5, 2) from by decide +kernel) rfl
theorem b_Scales_cheapestCard_99 {C : CF} {d : Nat} {σ : HP} {x6 : Int32} {l0 : Option Value} {l1 : Option Value} {l2 : Option Value} {l3 : Option Value} {l4 : Option Value} {l5 : Option Value} {l7 : Option Value}  : runF C d m_Scales_cheapestCard (99, [l0, l1, l2, l3, l4, l5, some (.int x6), l7], [], σ) = runF C d m_Scales_cheapestCard (25, [l0, l1, l2, l3, l4, l5, some (.int (x6 + (1 : Int32))), l7], [], σ) := by
  refine (r_iinc 6 (v := (1 : Int32)) (show decode (zb m_Scales_cheapestCard) 99 = .ok (.iinc 6 (1), 3) from by decide +kernel) rfl rfl (by decide)).trans ?_
  exact r_goto 25 (show decode (zb m_Scales_cheapestCard) 102 = .ok (.goto (-77), 3) from by decide +kernel) rfl
theorem b_Scales_cheapestCard_105 {C : CF} {d : Nat} {σ : HP} {x4 : Int32} {l0 : Option Value} {l1 : Option Value} {l2 : Option Value} {l3 : Option Value} {l5 : Option Value} {l6 : Option Value} {l7 : Option Value}  : runF C d m_Scales_cheapestCard (105, [l0, l1, l2, l3, some (.int x4), l5, l6, l7], [], σ) = some (.inl (some (.int x4)), σ) := by
  refine (r_iload 4 (show decode (zb m_Scales_cheapestCard) 105 = .ok (.iload 4, 2) from by decide +kernel) rfl).trans ?_
  exact r_iret (show decode (zb m_Scales_cheapestCard) 107 = .ok (.ireturn, 1) from by decide +kernel) rfl rfl
theorem e_Scales_waysWithoutRun {d : Nat} {σ : HP} {a0 : Nat} {x1 : Int32} {x2 : Int32} {x3 : Int32} : callF (d + 1) m_Scales_waysWithoutRun [.ref a0, .int x1, .int x2, .int x3] σ = runF (callF d) d m_Scales_waysWithoutRun (0, [some (.ref a0), some (.int x1), some (.int x2), some (.int x3), none, none, none, none], [], σ) := callF_in rfl rfl
theorem b_Scales_waysWithoutRun_0 {C : CF} {d : Nat} {σ : HP} {a0 : Nat} {l1 : Option Value} {l2 : Option Value} {l3 : Option Value} {l4 : Option Value} {l5 : Option Value} {l6 : Option Value} {l7 : Option Value} (h1 : a0 % 64 = 8) (h2 : (gR σ a0 3).isSome = true) : runF C d m_Scales_waysWithoutRun (0, [some (.ref a0), l1, l2, l3, l4, l5, l6, l7], [], σ) = bkN C d m_Scales_waysWithoutRun 5 [some (.ref a0), l1, l2, l3, l4, l5, l6, l7] [] (C m_Arrays_fill2 [.ref (dr (gR σ a0 3)), .long ((0 : Int64))] σ) := by
  refine (r_aloadn 0 (show decode (zb m_Scales_waysWithoutRun) 0 = .ok (.aload_n 0, 1) from by decide +kernel) rfl).trans ?_
  refine (r_getR (show decode (zb m_Scales_waysWithoutRun) 1 = .ok (.getfield 21, 3) from by decide +kernel) rfl rfl h1 h2).trans ?_
  refine (r_lconst (v := 0) (show decode (zb m_Scales_waysWithoutRun) 4 = .ok (.lconst 0, 1) from by decide +kernel) (by decide)).trans ?_
  exact r_stat (args := [.ref (dr (gR σ a0 3)), .long ((0 : Int64))]) (rest := []) (show decode (zb m_Scales_waysWithoutRun) 5 = .ok (.invokestatic 118, 3) from by decide +kernel) rfl (by decide) rfl rfl
theorem b_Scales_waysWithoutRun_8 {C : CF} {d : Nat} {σ : HP} {a0 : Nat} {l1 : Option Value} {l2 : Option Value} {l3 : Option Value} {l4 : Option Value} {l5 : Option Value} {l6 : Option Value} {l7 : Option Value} (h1 : a0 % 64 = 8) : runF C d m_Scales_waysWithoutRun (8, [some (.ref a0), l1, l2, l3, l4, l5, l6, l7], [], σ) = bk C d m_Scales_waysWithoutRun 11 [some (.ref a0), l1, l2, l3, l4, l5, l6, l7] [] (C m_Scales_setWays [.ref a0, .int ((0 : Int32)), .long ((1 : Int64))] σ) := by
  refine (r_aloadn 0 (show decode (zb m_Scales_waysWithoutRun) 8 = .ok (.aload_n 0, 1) from by decide +kernel) rfl).trans ?_
  refine (r_iconst (v := (0 : Int32)) (show decode (zb m_Scales_waysWithoutRun) 9 = .ok (.iconst (0), 1) from by decide +kernel) (by decide)).trans ?_
  refine (r_lconst (v := 1) (show decode (zb m_Scales_waysWithoutRun) 10 = .ok (.lconst 1, 1) from by decide +kernel) (by decide)).trans ?_
  exact r_virt (args := [.int ((0 : Int32)), .long ((1 : Int64))]) (rest := []) (show decode (zb m_Scales_waysWithoutRun) 11 = .ok (.invokevirtual 124, 3) from by decide +kernel) rfl rfl rfl h1
theorem b_Scales_waysWithoutRun_14 {C : CF} {d : Nat} {σ : HP} {l0 : Option Value} {l1 : Option Value} {l2 : Option Value} {l3 : Option Value} {l4 : Option Value} {l5 : Option Value} {l6 : Option Value} {l7 : Option Value}  : runF C d m_Scales_waysWithoutRun (14, [l0, l1, l2, l3, l4, l5, l6, l7], [], σ) = runF C d m_Scales_waysWithoutRun (17, [l0, l1, l2, l3, some (.int ((0 : Int32))), l5, l6, l7], [], σ) := by
  refine (r_iconst (v := (0 : Int32)) (show decode (zb m_Scales_waysWithoutRun) 14 = .ok (.iconst (0), 1) from by decide +kernel) (by decide)).trans ?_
  exact r_istore 4 (show decode (zb m_Scales_waysWithoutRun) 15 = .ok (.istore 4, 2) from by decide +kernel) rfl
theorem b_Scales_waysWithoutRun_17 {C : CF} {d : Nat} {σ : HP} {x4 : Int32} {x1 : Int32} {l0 : Option Value} {l2 : Option Value} {l3 : Option Value} {l5 : Option Value} {l6 : Option Value} {l7 : Option Value}  : runF C d m_Scales_waysWithoutRun (17, [l0, some (.int x1), l2, l3, some (.int x4), l5, l6, l7], [], σ) = if x1 ≤ x4 then runF C d m_Scales_waysWithoutRun (98, [l0, some (.int x1), l2, l3, some (.int x4), l5, l6, l7], [], σ) else runF C d m_Scales_waysWithoutRun (23, [l0, some (.int x1), l2, l3, some (.int x4), l5, l6, l7], [], σ) := by
  refine (r_iload 4 (show decode (zb m_Scales_waysWithoutRun) 17 = .ok (.iload 4, 2) from by decide +kernel) rfl).trans ?_
  refine (r_iloadn 1 (show decode (zb m_Scales_waysWithoutRun) 19 = .ok (.iload_n 1, 1) from by decide +kernel) rfl).trans ?_
  exact r_icmp_ge 98 (show decode (zb m_Scales_waysWithoutRun) 20 = .ok (.if_icmp .ge (78), 3) from by decide +kernel) rfl
theorem b_Scales_waysWithoutRun_23 {C : CF} {d : Nat} {σ : HP} {x4 : Int32} {x2 : Int32} {l0 : Option Value} {l1 : Option Value} {l3 : Option Value} {l5 : Option Value} {l6 : Option Value} {l7 : Option Value}  : runF C d m_Scales_waysWithoutRun (23, [l0, l1, some (.int x2), l3, some (.int x4), l5, l6, l7], [], σ) = runF C d m_Scales_waysWithoutRun (31, [l0, l1, some (.int x2), l3, some (.int x4), some (.long ((0 : Int64))), none, some (.int (x2 - (1 : Int32)))], [], σ) := by
  refine (r_lconst (v := 0) (show decode (zb m_Scales_waysWithoutRun) 23 = .ok (.lconst 0, 1) from by decide +kernel) (by decide)).trans ?_
  refine (r_lstore 5 (show decode (zb m_Scales_waysWithoutRun) 24 = .ok (.lstore 5, 2) from by decide +kernel) rfl).trans ?_
  refine (r_iloadn 2 (show decode (zb m_Scales_waysWithoutRun) 26 = .ok (.iload_n 2, 1) from by decide +kernel) rfl).trans ?_
  refine (r_iconst (v := (1 : Int32)) (show decode (zb m_Scales_waysWithoutRun) 27 = .ok (.iconst (1), 1) from by decide +kernel) (by decide)).trans ?_
  refine (r_isub (show decode (zb m_Scales_waysWithoutRun) 28 = .ok (.isub, 1) from by decide +kernel)).trans ?_
  exact r_istore 7 (show decode (zb m_Scales_waysWithoutRun) 29 = .ok (.istore 7, 2) from by decide +kernel) rfl
theorem b_Scales_waysWithoutRun_31 {C : CF} {d : Nat} {σ : HP} {x7 : Int32} {l0 : Option Value} {l1 : Option Value} {l2 : Option Value} {l3 : Option Value} {l4 : Option Value} {l5 : Option Value} {l6 : Option Value}  : runF C d m_Scales_waysWithoutRun (31, [l0, l1, l2, l3, l4, l5, l6, some (.int x7)], [], σ) = if x7 < 0 then runF C d m_Scales_waysWithoutRun (79, [l0, l1, l2, l3, l4, l5, l6, some (.int x7)], [], σ) else runF C d m_Scales_waysWithoutRun (36, [l0, l1, l2, l3, l4, l5, l6, some (.int x7)], [], σ) := by
  refine (r_iload 7 (show decode (zb m_Scales_waysWithoutRun) 31 = .ok (.iload 7, 2) from by decide +kernel) rfl).trans ?_
  exact r_if_lt 79 (show decode (zb m_Scales_waysWithoutRun) 33 = .ok (.ifCond .lt (46), 3) from by decide +kernel) rfl
theorem b_Scales_waysWithoutRun_36 {C : CF} {d : Nat} {σ : HP} {j5 : Int64} {a0 : Nat} {x7 : Int32} {l1 : Option Value} {l2 : Option Value} {l3 : Option Value} {l4 : Option Value} {l6 : Option Value} (h1 : a0 % 64 = 8) : runF C d m_Scales_waysWithoutRun (36, [some (.ref a0), l1, l2, l3, l4, some (.long j5), l6, some (.int x7)], [], σ) = bk C d m_Scales_waysWithoutRun 41 [some (.ref a0), l1, l2, l3, l4, some (.long j5), l6, some (.int x7)] [.long j5] (C m_Scales_waysAt [.ref a0, .int x7] σ) := by
  refine (r_lload 5 (show decode (zb m_Scales_waysWithoutRun) 36 = .ok (.lload 5, 2) from by decide +kernel) rfl).trans ?_
  refine (r_aloadn 0 (show decode (zb m_Scales_waysWithoutRun) 38 = .ok (.aload_n 0, 1) from by decide +kernel) rfl).trans ?_
  refine (r_iload 7 (show decode (zb m_Scales_waysWithoutRun) 39 = .ok (.iload 7, 2) from by decide +kernel) rfl).trans ?_
  exact r_virt (args := [.int x7]) (rest := [.long j5]) (show decode (zb m_Scales_waysWithoutRun) 41 = .ok (.invokevirtual 128, 3) from by decide +kernel) rfl rfl rfl h1
theorem b_Scales_waysWithoutRun_44 {C : CF} {d : Nat} {σ : HP} {t0 : Int64} {t1 : Int64} {x4 : Int32} {a0 : Nat} {x7 : Int32} {l1 : Option Value} {l2 : Option Value} {l3 : Option Value} {l5 : Option Value} {l6 : Option Value}  : runF C d m_Scales_waysWithoutRun (44, [some (.ref a0), l1, l2, l3, some (.int x4), l5, l6, some (.int x7)], [.long t0, .long t1], σ) = if ¬ x7 = 0 then runF C d m_Scales_waysWithoutRun (59, [some (.ref a0), l1, l2, l3, some (.int x4), some (.long (t1 + t0)), none, some (.int x7)], [.int x7, .ref a0], σ) else runF C d m_Scales_waysWithoutRun (55, [some (.ref a0), l1, l2, l3, some (.int x4), some (.long (t1 + t0)), none, some (.int x7)], [.int x7, .ref a0], σ) := by
  refine (r_ladd (show decode (zb m_Scales_waysWithoutRun) 44 = .ok (.ladd, 1) from by decide +kernel)).trans ?_
  refine (r_lstore 5 (show decode (zb m_Scales_waysWithoutRun) 45 = .ok (.lstore 5, 2) from by decide +kernel) rfl).trans ?_
  refine (r_aloadn 0 (show decode (zb m_Scales_waysWithoutRun) 47 = .ok (.aload_n 0, 1) from by decide +kernel) rfl).trans ?_
  refine (r_iload 7 (show decode (zb m_Scales_waysWithoutRun) 48 = .ok (.iload 7, 2) from by decide +kernel) rfl).trans ?_
  refine (r_iload 7 (show decode (zb m_Scales_waysWithoutRun) 50 = .ok (.iload 7, 2) from by decide +kernel) rfl).trans ?_
  exact r_if_ne 59 (show decode (zb m_Scales_waysWithoutRun) 52 = .ok (.ifCond .ne (7), 3) from by decide +kernel) rfl
theorem b_Scales_waysWithoutRun_55 {C : CF} {d : Nat} {σ : HP} {s0 : Int32} {r1 : Nat} {l0 : Option Value} {l1 : Option Value} {l2 : Option Value} {l3 : Option Value} {l4 : Option Value} {l5 : Option Value} {l6 : Option Value} {l7 : Option Value}  : runF C d m_Scales_waysWithoutRun (55, [l0, l1, l2, l3, l4, l5, l6, l7], [.int s0, .ref r1], σ) = runF C d m_Scales_waysWithoutRun (70, [l0, l1, l2, l3, l4, l5, l6, l7], [.long ((0 : Int64)), .int s0, .ref r1], σ) := by
  refine (r_lconst (v := 0) (show decode (zb m_Scales_waysWithoutRun) 55 = .ok (.lconst 0, 1) from by decide +kernel) (by decide)).trans ?_
  exact r_goto 70 (show decode (zb m_Scales_waysWithoutRun) 56 = .ok (.goto (14), 3) from by decide +kernel) rfl
theorem b_Scales_waysWithoutRun_59 {C : CF} {d : Nat} {σ : HP} {s0 : Int32} {r1 : Nat} {a0 : Nat} {x7 : Int32} {l1 : Option Value} {l2 : Option Value} {l3 : Option Value} {l4 : Option Value} {l5 : Option Value} {l6 : Option Value} (h1 : a0 % 64 = 8) : runF C d m_Scales_waysWithoutRun (59, [some (.ref a0), l1, l2, l3, l4, l5, l6, some (.int x7)], [.int s0, .ref r1], σ) = bk C d m_Scales_waysWithoutRun 64 [some (.ref a0), l1, l2, l3, l4, l5, l6, some (.int x7)] [.int s0, .ref r1] (C m_Scales_waysAt [.ref a0, .int (x7 - (1 : Int32))] σ) := by
  refine (r_aloadn 0 (show decode (zb m_Scales_waysWithoutRun) 59 = .ok (.aload_n 0, 1) from by decide +kernel) rfl).trans ?_
  refine (r_iload 7 (show decode (zb m_Scales_waysWithoutRun) 60 = .ok (.iload 7, 2) from by decide +kernel) rfl).trans ?_
  refine (r_iconst (v := (1 : Int32)) (show decode (zb m_Scales_waysWithoutRun) 62 = .ok (.iconst (1), 1) from by decide +kernel) (by decide)).trans ?_
  refine (r_isub (show decode (zb m_Scales_waysWithoutRun) 63 = .ok (.isub, 1) from by decide +kernel)).trans ?_
  exact r_virt (args := [.int (x7 - (1 : Int32))]) (rest := [.int s0, .ref r1]) (show decode (zb m_Scales_waysWithoutRun) 64 = .ok (.invokevirtual 128, 3) from by decide +kernel) rfl rfl rfl h1
theorem b_Scales_waysWithoutRun_67 {C : CF} {d : Nat} {σ : HP} {t0 : Int64} {s1 : Int32} {r2 : Nat} {x3 : Int32} {l0 : Option Value} {l1 : Option Value} {l2 : Option Value} {l4 : Option Value} {l5 : Option Value} {l6 : Option Value} {l7 : Option Value}  : runF C d m_Scales_waysWithoutRun (67, [l0, l1, l2, some (.int x3), l4, l5, l6, l7], [.long t0, .int s1, .ref r2], σ) = runF C d m_Scales_waysWithoutRun (70, [l0, l1, l2, some (.int x3), l4, l5, l6, l7], [.long (t0 * (Int32.toInt64 x3)), .int s1, .ref r2], σ) := by
  refine (r_iloadn 3 (show decode (zb m_Scales_waysWithoutRun) 67 = .ok (.iload_n 3, 1) from by decide +kernel) rfl).trans ?_
  refine (r_i2l (show decode (zb m_Scales_waysWithoutRun) 68 = .ok (.i2l, 1) from by decide +kernel)).trans ?_
  exact r_lmul (show decode (zb m_Scales_waysWithoutRun) 69 = .ok (.lmul, 1) from by decide +kernel)
theorem b_Scales_waysWithoutRun_70 {C : CF} {d : Nat} {σ : HP} {t0 : Int64} {s1 : Int32} {r2 : Nat} {l0 : Option Value} {l1 : Option Value} {l2 : Option Value} {l3 : Option Value} {l4 : Option Value} {l5 : Option Value} {l6 : Option Value} {l7 : Option Value} (h1 : r2 % 64 = 8) : runF C d m_Scales_waysWithoutRun (70, [l0, l1, l2, l3, l4, l5, l6, l7], [.long t0, .int s1, .ref r2], σ) = bk C d m_Scales_waysWithoutRun 70 [l0, l1, l2, l3, l4, l5, l6, l7] [] (C m_Scales_setWays [.ref r2, .int s1, .long t0] σ) := by
  exact r_virt (args := [.int s1, .long t0]) (rest := []) (show decode (zb m_Scales_waysWithoutRun) 70 = .ok (.invokevirtual 124, 3) from by decide +kernel) rfl rfl rfl h1
theorem b_Scales_waysWithoutRun_73 {C : CF} {d : Nat} {σ : HP} {x7 : Int32} {l0 : Option Value} {l1 : Option Value} {l2 : Option Value} {l3 : Option Value} {l4 : Option Value} {l5 : Option Value} {l6 : Option Value}  : runF C d m_Scales_waysWithoutRun (73, [l0, l1, l2, l3, l4, l5, l6, some (.int x7)], [], σ) = runF C d m_Scales_waysWithoutRun (31, [l0, l1, l2, l3, l4, l5, l6, some (.int (x7 + (-1 : Int32)))], [], σ) := by
  refine (r_iinc 7 (v := (-1 : Int32)) (show decode (zb m_Scales_waysWithoutRun) 73 = .ok (.iinc 7 (-1), 3) from by decide +kernel) rfl rfl (by decide)).trans ?_
  exact r_goto 31 (show decode (zb m_Scales_waysWithoutRun) 76 = .ok (.goto (-45), 3) from by decide +kernel) rfl
theorem b_Scales_waysWithoutRun_79 {C : CF} {d : Nat} {σ : HP} {a0 : Nat} {j5 : Int64} {x3 : Int32} {l1 : Option Value} {l2 : Option Value} {l4 : Option Value} {l6 : Option Value} {l7 : Option Value} (h1 : a0 % 64 = 8) : runF C d m_Scales_waysWithoutRun (79, [some (.ref a0), l1, l2, some (.int x3), l4, some (.long j5), l6, l7], [], σ) = bk C d m_Scales_waysWithoutRun 89 [some (.ref a0), l1, l2, some (.int x3), l4, some (.long j5), l6, l7] [] (C m_Scales_setWays [.ref a0, .int ((0 : Int32)), .long (j5 * (Int32.toInt64 ((16 : Int32) - x3)))] σ) := by
  refine (r_aloadn 0 (show decode (zb m_Scales_waysWithoutRun) 79 = .ok (.aload_n 0, 1) from by decide +kernel) rfl).trans ?_
  refine (r_iconst (v := (0 : Int32)) (show decode (zb m_Scales_waysWithoutRun) 80 = .ok (.iconst (0), 1) from by decide +kernel) (by decide)).trans ?_
  refine (r_lload 5 (show decode (zb m_Scales_waysWithoutRun) 81 = .ok (.lload 5, 2) from by decide +kernel) rfl).trans ?_
  refine (r_bipush (v := (16 : Int32)) (show decode (zb m_Scales_waysWithoutRun) 83 = .ok (.bipush (16), 2) from by decide +kernel) (by decide)).trans ?_
  refine (r_iloadn 3 (show decode (zb m_Scales_waysWithoutRun) 85 = .ok (.iload_n 3, 1) from by decide +kernel) rfl).trans ?_
  refine (r_isub (show decode (zb m_Scales_waysWithoutRun) 86 = .ok (.isub, 1) from by decide +kernel)).trans ?_
  refine (r_i2l (show decode (zb m_Scales_waysWithoutRun) 87 = .ok (.i2l, 1) from by decide +kernel)).trans ?_
  refine (r_lmul (show decode (zb m_Scales_waysWithoutRun) 88 = .ok (.lmul, 1) from by decide +kernel)).trans ?_
  exact r_virt (args := [.int ((0 : Int32)), .long (j5 * (Int32.toInt64 ((16 : Int32) - x3)))]) (rest := []) (show decode (zb m_Scales_waysWithoutRun) 89 = .ok (.invokevirtual 124, 3) from by decide +kernel) rfl rfl rfl h1
theorem b_Scales_waysWithoutRun_92 {C : CF} {d : Nat} {σ : HP} {x4 : Int32} {l0 : Option Value} {l1 : Option Value} {l2 : Option Value} {l3 : Option Value} {l5 : Option Value} {l6 : Option Value} {l7 : Option Value}  : runF C d m_Scales_waysWithoutRun (92, [l0, l1, l2, l3, some (.int x4), l5, l6, l7], [], σ) = runF C d m_Scales_waysWithoutRun (17, [l0, l1, l2, l3, some (.int (x4 + (1 : Int32))), l5, l6, l7], [], σ) := by
  refine (r_iinc 4 (v := (1 : Int32)) (show decode (zb m_Scales_waysWithoutRun) 92 = .ok (.iinc 4 (1), 3) from by decide +kernel) rfl rfl (by decide)).trans ?_
  exact r_goto 17 (show decode (zb m_Scales_waysWithoutRun) 95 = .ok (.goto (-78), 3) from by decide +kernel) rfl
theorem b_Scales_waysWithoutRun_98 {C : CF} {d : Nat} {σ : HP} {l0 : Option Value} {l1 : Option Value} {l2 : Option Value} {l3 : Option Value} {l4 : Option Value} {l5 : Option Value} {l6 : Option Value} {l7 : Option Value}  : runF C d m_Scales_waysWithoutRun (98, [l0, l1, l2, l3, l4, l5, l6, l7], [], σ) = runF C d m_Scales_waysWithoutRun (104, [l0, l1, l2, l3, some (.long ((0 : Int64))), none, some (.int ((0 : Int32))), l7], [], σ) := by
  refine (r_lconst (v := 0) (show decode (zb m_Scales_waysWithoutRun) 98 = .ok (.lconst 0, 1) from by decide +kernel) (by decide)).trans ?_
  refine (r_lstore 4 (show decode (zb m_Scales_waysWithoutRun) 99 = .ok (.lstore 4, 2) from by decide +kernel) rfl).trans ?_
  refine (r_iconst (v := (0 : Int32)) (show decode (zb m_Scales_waysWithoutRun) 101 = .ok (.iconst (0), 1) from by decide +kernel) (by decide)).trans ?_
  exact r_istore 6 (show decode (zb m_Scales_waysWithoutRun) 102 = .ok (.istore 6, 2) from by decide +kernel) rfl
theorem b_Scales_waysWithoutRun_104 {C : CF} {d : Nat} {σ : HP} {x6 : Int32} {x2 : Int32} {l0 : Option Value} {l1 : Option Value} {l3 : Option Value} {l4 : Option Value} {l5 : Option Value} {l7 : Option Value}  : runF C d m_Scales_waysWithoutRun (104, [l0, l1, some (.int x2), l3, l4, l5, some (.int x6), l7], [], σ) = if x2 ≤ x6 then runF C d m_Scales_waysWithoutRun (127, [l0, l1, some (.int x2), l3, l4, l5, some (.int x6), l7], [], σ) else runF C d m_Scales_waysWithoutRun (110, [l0, l1, some (.int x2), l3, l4, l5, some (.int x6), l7], [], σ) := by
  refine (r_iload 6 (show decode (zb m_Scales_waysWithoutRun) 104 = .ok (.iload 6, 2) from by decide +kernel) rfl).trans ?_
  refine (r_iloadn 2 (show decode (zb m_Scales_waysWithoutRun) 106 = .ok (.iload_n 2, 1) from by decide +kernel) rfl).trans ?_
  exact r_icmp_ge 127 (show decode (zb m_Scales_waysWithoutRun) 107 = .ok (.if_icmp .ge (20), 3) from by decide +kernel) rfl
theorem b_Scales_waysWithoutRun_110 {C : CF} {d : Nat} {σ : HP} {j4 : Int64} {a0 : Nat} {x6 : Int32} {l1 : Option Value} {l2 : Option Value} {l3 : Option Value} {l5 : Option Value} {l7 : Option Value} (h1 : a0 % 64 = 8) : runF C d m_Scales_waysWithoutRun (110, [some (.ref a0), l1, l2, l3, some (.long j4), l5, some (.int x6), l7], [], σ) = bk C d m_Scales_waysWithoutRun 115 [some (.ref a0), l1, l2, l3, some (.long j4), l5, some (.int x6), l7] [.long j4] (C m_Scales_waysAt [.ref a0, .int x6] σ) := by
  refine (r_lload 4 (show decode (zb m_Scales_waysWithoutRun) 110 = .ok (.lload 4, 2) from by decide +kernel) rfl).trans ?_
  refine (r_aloadn 0 (show decode (zb m_Scales_waysWithoutRun) 112 = .ok (.aload_n 0, 1) from by decide +kernel) rfl).trans ?_
  refine (r_iload 6 (show decode (zb m_Scales_waysWithoutRun) 113 = .ok (.iload 6, 2) from by decide +kernel) rfl).trans ?_
  exact r_virt (args := [.int x6]) (rest := [.long j4]) (show decode (zb m_Scales_waysWithoutRun) 115 = .ok (.invokevirtual 128, 3) from by decide +kernel) rfl rfl rfl h1
theorem b_Scales_waysWithoutRun_118 {C : CF} {d : Nat} {σ : HP} {t0 : Int64} {t1 : Int64} {x6 : Int32} {l0 : Option Value} {l1 : Option Value} {l2 : Option Value} {l3 : Option Value} {l4 : Option Value} {l5 : Option Value} {l7 : Option Value}  : runF C d m_Scales_waysWithoutRun (118, [l0, l1, l2, l3, l4, l5, some (.int x6), l7], [.long t0, .long t1], σ) = runF C d m_Scales_waysWithoutRun (104, [l0, l1, l2, l3, some (.long (t1 + t0)), none, some (.int (x6 + (1 : Int32))), l7], [], σ) := by
  refine (r_ladd (show decode (zb m_Scales_waysWithoutRun) 118 = .ok (.ladd, 1) from by decide +kernel)).trans ?_
  refine (r_lstore 4 (show decode (zb m_Scales_waysWithoutRun) 119 = .ok (.lstore 4, 2) from by decide +kernel) rfl).trans ?_
  refine (r_iinc 6 (v := (1 : Int32)) (show decode (zb m_Scales_waysWithoutRun) 121 = .ok (.iinc 6 (1), 3) from by decide +kernel) rfl rfl (by decide)).trans ?_
  exact r_goto 104 (show decode (zb m_Scales_waysWithoutRun) 124 = .ok (.goto (-20), 3) from by decide +kernel) rfl
theorem b_Scales_waysWithoutRun_127 {C : CF} {d : Nat} {σ : HP} {j4 : Int64} {l0 : Option Value} {l1 : Option Value} {l2 : Option Value} {l3 : Option Value} {l5 : Option Value} {l6 : Option Value} {l7 : Option Value}  : runF C d m_Scales_waysWithoutRun (127, [l0, l1, l2, l3, some (.long j4), l5, l6, l7], [], σ) = some (.inl (some (.long j4)), σ) := by
  refine (r_lload 4 (show decode (zb m_Scales_waysWithoutRun) 127 = .ok (.lload 4, 2) from by decide +kernel) rfl).trans ?_
  exact r_lret (show decode (zb m_Scales_waysWithoutRun) 129 = .ok (.lreturn, 1) from by decide +kernel) rfl
theorem e_Scales_setWays {d : Nat} {σ : HP} {a0 : Nat} {x1 : Int32} {j2 : Int64} : callF (d + 1) m_Scales_setWays [.ref a0, .int x1, .long j2] σ = runF (callF d) d m_Scales_setWays (0, [some (.ref a0), some (.int x1), some (.long j2), none], [], σ) := callF_in rfl rfl
theorem b_Scales_setWays_0 {C : CF} {d : Nat} {σ : HP} {x1 : Int32} {l0 : Option Value} {l2 : Option Value} {l3 : Option Value}  : runF C d m_Scales_setWays (0, [l0, some (.int x1), l2, l3], [], σ) = if x1 < 0 then runF C d m_Scales_setWays (20, [l0, some (.int x1), l2, l3], [], σ) else runF C d m_Scales_setWays (4, [l0, some (.int x1), l2, l3], [], σ) := by
  refine (r_iloadn 1 (show decode (zb m_Scales_setWays) 0 = .ok (.iload_n 1, 1) from by decide +kernel) rfl).trans ?_
  exact r_if_lt 20 (show decode (zb m_Scales_setWays) 1 = .ok (.ifCond .lt (19), 3) from by decide +kernel) rfl
theorem b_Scales_setWays_4 {C : CF} {d : Nat} {σ : HP} {x1 : Int32} {a0 : Nat} {l2 : Option Value} {l3 : Option Value} (h1 : a0 % 64 = 8) (h2 : (gR σ a0 3).isSome = true) (h3 : ¬ aty ((dr (gR σ a0 3)) % 64) = 0) : runF C d m_Scales_setWays (4, [some (.ref a0), some (.int x1), l2, l3], [], σ) = if (Int32.ofNat (alen ((dr (gR σ a0 3)) % 64))) ≤ x1 then runF C d m_Scales_setWays (20, [some (.ref a0), some (.int x1), l2, l3], [], σ) else runF C d m_Scales_setWays (13, [some (.ref a0), some (.int x1), l2, l3], [], σ) := by
  refine (r_iloadn 1 (show decode (zb m_Scales_setWays) 4 = .ok (.iload_n 1, 1) from by decide +kernel) rfl).trans ?_
  refine (r_aloadn 0 (show decode (zb m_Scales_setWays) 5 = .ok (.aload_n 0, 1) from by decide +kernel) rfl).trans ?_
  refine (r_getR (show decode (zb m_Scales_setWays) 6 = .ok (.getfield 21, 3) from by decide +kernel) rfl rfl h1 h2).trans ?_
  refine (r_alen (show decode (zb m_Scales_setWays) 9 = .ok (.arraylength, 1) from by decide +kernel) h3).trans ?_
  exact r_icmp_ge 20 (show decode (zb m_Scales_setWays) 10 = .ok (.if_icmp .ge (10), 3) from by decide +kernel) rfl
theorem b_Scales_setWays_13 {C : CF} {d : Nat} {σ : HP} {a0 : Nat} {x1 : Int32} {j2 : Int64} {l3 : Option Value} (h1 : a0 % 64 = 8) (h2 : (gR σ a0 3).isSome = true) (h3 : aty ((dr (gR σ a0 3)) % 64) = 2) (h4 : inR x1 (alen ((dr (gR σ a0 3)) % 64)) = true) : runF C d m_Scales_setWays (13, [some (.ref a0), some (.int x1), some (.long j2), l3], [], σ) = runF C d m_Scales_setWays (20, [some (.ref a0), some (.int x1), some (.long j2), l3], [], wJ σ (dr (gR σ a0 3)) (Int32.toNatClampNeg x1) j2) := by
  refine (r_aloadn 0 (show decode (zb m_Scales_setWays) 13 = .ok (.aload_n 0, 1) from by decide +kernel) rfl).trans ?_
  refine (r_getR (show decode (zb m_Scales_setWays) 14 = .ok (.getfield 21, 3) from by decide +kernel) rfl rfl h1 h2).trans ?_
  refine (r_iloadn 1 (show decode (zb m_Scales_setWays) 17 = .ok (.iload_n 1, 1) from by decide +kernel) rfl).trans ?_
  refine (r_lloadn 2 (show decode (zb m_Scales_setWays) 18 = .ok (.lload_n 2, 1) from by decide +kernel) rfl).trans ?_
  exact r_last (show decode (zb m_Scales_setWays) 19 = .ok (.lastore, 1) from by decide +kernel) h3 h4
theorem b_Scales_setWays_20 {C : CF} {d : Nat} {σ : HP} {l0 : Option Value} {l1 : Option Value} {l2 : Option Value} {l3 : Option Value}  : runF C d m_Scales_setWays (20, [l0, l1, l2, l3], [], σ) = some (.inl none, σ) := by
  exact r_vret (show decode (zb m_Scales_setWays) 20 = .ok (.return_, 1) from by decide +kernel) rfl
theorem e_Scales_waysAt {d : Nat} {σ : HP} {a0 : Nat} {x1 : Int32} : callF (d + 1) m_Scales_waysAt [.ref a0, .int x1] σ = runF (callF d) d m_Scales_waysAt (0, [some (.ref a0), some (.int x1)], [], σ) := callF_in rfl rfl
theorem b_Scales_waysAt_0 {C : CF} {d : Nat} {σ : HP} {x1 : Int32} {l0 : Option Value}  : runF C d m_Scales_waysAt (0, [l0, some (.int x1)], [], σ) = if x1 < 0 then runF C d m_Scales_waysAt (22, [l0, some (.int x1)], [], σ) else runF C d m_Scales_waysAt (4, [l0, some (.int x1)], [], σ) := by
  refine (r_iloadn 1 (show decode (zb m_Scales_waysAt) 0 = .ok (.iload_n 1, 1) from by decide +kernel) rfl).trans ?_
  exact r_if_lt 22 (show decode (zb m_Scales_waysAt) 1 = .ok (.ifCond .lt (21), 3) from by decide +kernel) rfl
theorem b_Scales_waysAt_4 {C : CF} {d : Nat} {σ : HP} {x1 : Int32} {a0 : Nat} (h1 : a0 % 64 = 8) (h2 : (gR σ a0 3).isSome = true) (h3 : ¬ aty ((dr (gR σ a0 3)) % 64) = 0) : runF C d m_Scales_waysAt (4, [some (.ref a0), some (.int x1)], [], σ) = if (Int32.ofNat (alen ((dr (gR σ a0 3)) % 64))) ≤ x1 then runF C d m_Scales_waysAt (22, [some (.ref a0), some (.int x1)], [], σ) else runF C d m_Scales_waysAt (13, [some (.ref a0), some (.int x1)], [], σ) := by
  refine (r_iloadn 1 (show decode (zb m_Scales_waysAt) 4 = .ok (.iload_n 1, 1) from by decide +kernel) rfl).trans ?_
  refine (r_aloadn 0 (show decode (zb m_Scales_waysAt) 5 = .ok (.aload_n 0, 1) from by decide +kernel) rfl).trans ?_
  refine (r_getR (show decode (zb m_Scales_waysAt) 6 = .ok (.getfield 21, 3) from by decide +kernel) rfl rfl h1 h2).trans ?_
  refine (r_alen (show decode (zb m_Scales_waysAt) 9 = .ok (.arraylength, 1) from by decide +kernel) h3).trans ?_
  exact r_icmp_ge 22 (show decode (zb m_Scales_waysAt) 10 = .ok (.if_icmp .ge (12), 3) from by decide +kernel) rfl
theorem b_Scales_waysAt_13 {C : CF} {d : Nat} {σ : HP} {a0 : Nat} {x1 : Int32} (h1 : a0 % 64 = 8) (h2 : (gR σ a0 3).isSome = true) (h3 : aty ((dr (gR σ a0 3)) % 64) = 2) (h4 : inR x1 (alen ((dr (gR σ a0 3)) % 64)) = true) : runF C d m_Scales_waysAt (13, [some (.ref a0), some (.int x1)], [], σ) = runF C d m_Scales_waysAt (23, [some (.ref a0), some (.int x1)], [.long (gJ σ (dr (gR σ a0 3)) (Int32.toNatClampNeg x1))], σ) := by
  refine (r_aloadn 0 (show decode (zb m_Scales_waysAt) 13 = .ok (.aload_n 0, 1) from by decide +kernel) rfl).trans ?_
  refine (r_getR (show decode (zb m_Scales_waysAt) 14 = .ok (.getfield 21, 3) from by decide +kernel) rfl rfl h1 h2).trans ?_
  refine (r_iloadn 1 (show decode (zb m_Scales_waysAt) 17 = .ok (.iload_n 1, 1) from by decide +kernel) rfl).trans ?_
  refine (r_lald (show decode (zb m_Scales_waysAt) 18 = .ok (.laload, 1) from by decide +kernel) h3 h4).trans ?_
  exact r_goto 23 (show decode (zb m_Scales_waysAt) 19 = .ok (.goto (4), 3) from by decide +kernel) rfl
theorem b_Scales_waysAt_22 {C : CF} {d : Nat} {σ : HP} {l0 : Option Value} {l1 : Option Value}  : runF C d m_Scales_waysAt (22, [l0, l1], [], σ) = runF C d m_Scales_waysAt (23, [l0, l1], [.long ((0 : Int64))], σ) := by
  exact r_lconst (v := 0) (show decode (zb m_Scales_waysAt) 22 = .ok (.lconst 0, 1) from by decide +kernel) (by decide)
theorem b_Scales_waysAt_23 {C : CF} {d : Nat} {σ : HP} {t0 : Int64} {l0 : Option Value} {l1 : Option Value}  : runF C d m_Scales_waysAt (23, [l0, l1], [.long t0], σ) = some (.inl (some (.long t0)), σ) := by
  exact r_lret (show decode (zb m_Scales_waysAt) 23 = .ok (.lreturn, 1) from by decide +kernel) rfl
theorem e_Week_init {d : Nat} {σ : HP} {a0 : Nat} : callF (d + 1) m_Week_init [.ref a0] σ = runF (callF d) d m_Week_init (0, [some (.ref a0)], [], σ) := callF_in rfl rfl
theorem b_Week_init_0 {C : CF} {d : Nat} {σ : HP} {a0 : Nat} (h1 : a0 % 64 = 9) : runF C d m_Week_init (0, [some (.ref a0)], [], σ) = some (.inl none, wI σ a0 0 (0 : Int32)) := by
  refine (r_aloadn 0 (show decode (zb m_Week_init) 0 = .ok (.aload_n 0, 1) from by decide +kernel) rfl).trans ?_
  refine (r_obj (show decode (zb m_Week_init) 1 = .ok (.invokespecial 3, 3) from by decide +kernel) rfl (by have := h1; omega) rfl).trans ?_
  refine (r_aloadn 0 (show decode (zb m_Week_init) 4 = .ok (.aload_n 0, 1) from by decide +kernel) rfl).trans ?_
  refine (r_iconst (v := (0 : Int32)) (show decode (zb m_Week_init) 5 = .ok (.iconst (0), 1) from by decide +kernel) (by decide)).trans ?_
  refine (r_putI (show decode (zb m_Week_init) 6 = .ok (.putfield 9, 3) from by decide +kernel) rfl rfl rfl h1).trans ?_
  exact r_vret (show decode (zb m_Week_init) 9 = .ok (.return_, 1) from by decide +kernel) rfl
theorem e_Week_live {d : Nat} {σ : HP} {a0 : Nat} {a1 : Nat} {x2 : Int32} {x3 : Int32} {x4 : Int32} : callF (d + 1) m_Week_live [.ref a0, .ref a1, .int x2, .int x3, .int x4] σ = runF (callF d) d m_Week_live (0, [some (.ref a0), some (.ref a1), some (.int x2), some (.int x3), some (.int x4), none, none], [], σ) := callF_in rfl rfl
theorem b_Week_live_0 {C : CF} {d : Nat} {σ : HP} {a0 : Nat} {x2 : Int32} {l1 : Option Value} {l3 : Option Value} {l4 : Option Value} {l5 : Option Value} {l6 : Option Value} (h1 : a0 % 64 = 9) : runF C d m_Week_live (0, [some (.ref a0), l1, some (.int x2), l3, l4, l5, l6], [], σ) = runF C d m_Week_live (8, [some (.ref a0), l1, some (.int x2), l3, l4, some (.int ((0 : Int32))), l6], [], wI σ a0 0 x2) := by
  refine (r_aloadn 0 (show decode (zb m_Week_live) 0 = .ok (.aload_n 0, 1) from by decide +kernel) rfl).trans ?_
  refine (r_iloadn 2 (show decode (zb m_Week_live) 1 = .ok (.iload_n 2, 1) from by decide +kernel) rfl).trans ?_
  refine (r_putI (show decode (zb m_Week_live) 2 = .ok (.putfield 9, 3) from by decide +kernel) rfl rfl rfl h1).trans ?_
  refine (r_iconst (v := (0 : Int32)) (show decode (zb m_Week_live) 5 = .ok (.iconst (0), 1) from by decide +kernel) (by decide)).trans ?_
  exact r_istore 5 (show decode (zb m_Week_live) 6 = .ok (.istore 5, 2) from by decide +kernel) rfl
theorem b_Week_live_8 {C : CF} {d : Nat} {σ : HP} {x5 : Int32} {x4 : Int32} {l0 : Option Value} {l1 : Option Value} {l2 : Option Value} {l3 : Option Value} {l6 : Option Value}  : runF C d m_Week_live (8, [l0, l1, l2, l3, some (.int x4), some (.int x5), l6], [], σ) = if x4 ≤ x5 then runF C d m_Week_live (46, [l0, l1, l2, l3, some (.int x4), some (.int x5), l6], [], σ) else runF C d m_Week_live (15, [l0, l1, l2, l3, some (.int x4), some (.int x5), l6], [], σ) := by
  refine (r_iload 5 (show decode (zb m_Week_live) 8 = .ok (.iload 5, 2) from by decide +kernel) rfl).trans ?_
  refine (r_iload 4 (show decode (zb m_Week_live) 10 = .ok (.iload 4, 2) from by decide +kernel) rfl).trans ?_
  exact r_icmp_ge 46 (show decode (zb m_Week_live) 12 = .ok (.if_icmp .ge (34), 3) from by decide +kernel) rfl
theorem b_Week_live_15 {C : CF} {d : Nat} {σ : HP} {l0 : Option Value} {l1 : Option Value} {l2 : Option Value} {l3 : Option Value} {l4 : Option Value} {l5 : Option Value} {l6 : Option Value}  : runF C d m_Week_live (15, [l0, l1, l2, l3, l4, l5, l6], [], σ) = runF C d m_Week_live (18, [l0, l1, l2, l3, l4, l5, some (.int ((0 : Int32)))], [], σ) := by
  refine (r_iconst (v := (0 : Int32)) (show decode (zb m_Week_live) 15 = .ok (.iconst (0), 1) from by decide +kernel) (by decide)).trans ?_
  exact r_istore 6 (show decode (zb m_Week_live) 16 = .ok (.istore 6, 2) from by decide +kernel) rfl
theorem b_Week_live_18 {C : CF} {d : Nat} {σ : HP} {x6 : Int32} {l0 : Option Value} {l1 : Option Value} {l2 : Option Value} {l3 : Option Value} {l4 : Option Value} {l5 : Option Value}  : runF C d m_Week_live (18, [l0, l1, l2, l3, l4, l5, some (.int x6)], [], σ) = if (4 : Int32) ≤ x6 then runF C d m_Week_live (36, [l0, l1, l2, l3, l4, l5, some (.int x6)], [], σ) else runF C d m_Week_live (24, [l0, l1, l2, l3, l4, l5, some (.int x6)], [], σ) := by
  refine (r_iload 6 (show decode (zb m_Week_live) 18 = .ok (.iload 6, 2) from by decide +kernel) rfl).trans ?_
  refine (r_iconst (v := (4 : Int32)) (show decode (zb m_Week_live) 20 = .ok (.iconst (4), 1) from by decide +kernel) (by decide)).trans ?_
  exact r_icmp_ge 36 (show decode (zb m_Week_live) 21 = .ok (.if_icmp .ge (15), 3) from by decide +kernel) rfl
theorem b_Week_live_24 {C : CF} {d : Nat} {σ : HP} {a0 : Nat} {a1 : Nat} {x3 : Int32} {l2 : Option Value} {l4 : Option Value} {l5 : Option Value} {l6 : Option Value} (h1 : a0 % 64 = 9) : runF C d m_Week_live (24, [some (.ref a0), some (.ref a1), l2, some (.int x3), l4, l5, l6], [], σ) = bk C d m_Week_live 27 [some (.ref a0), some (.ref a1), l2, some (.int x3), l4, l5, l6] [] (C m_Week_doOnce [.ref a0, .ref a1, .int x3] σ) := by
  refine (r_aloadn 0 (show decode (zb m_Week_live) 24 = .ok (.aload_n 0, 1) from by decide +kernel) rfl).trans ?_
  refine (r_aloadn 1 (show decode (zb m_Week_live) 25 = .ok (.aload_n 1, 1) from by decide +kernel) rfl).trans ?_
  refine (r_iloadn 3 (show decode (zb m_Week_live) 26 = .ok (.iload_n 3, 1) from by decide +kernel) rfl).trans ?_
  exact r_virt (args := [.ref a1, .int x3]) (rest := []) (show decode (zb m_Week_live) 27 = .ok (.invokevirtual 15, 3) from by decide +kernel) rfl rfl rfl h1
theorem b_Week_live_30 {C : CF} {d : Nat} {σ : HP} {x6 : Int32} {l0 : Option Value} {l1 : Option Value} {l2 : Option Value} {l3 : Option Value} {l4 : Option Value} {l5 : Option Value}  : runF C d m_Week_live (30, [l0, l1, l2, l3, l4, l5, some (.int x6)], [], σ) = runF C d m_Week_live (18, [l0, l1, l2, l3, l4, l5, some (.int (x6 + (1 : Int32)))], [], σ) := by
  refine (r_iinc 6 (v := (1 : Int32)) (show decode (zb m_Week_live) 30 = .ok (.iinc 6 (1), 3) from by decide +kernel) rfl rfl (by decide)).trans ?_
  exact r_goto 18 (show decode (zb m_Week_live) 33 = .ok (.goto (-15), 3) from by decide +kernel) rfl
theorem b_Week_live_36 {C : CF} {d : Nat} {σ : HP} {a1 : Nat} {l0 : Option Value} {l2 : Option Value} {l3 : Option Value} {l4 : Option Value} {l5 : Option Value} {l6 : Option Value} (h1 : a1 % 64 = 5) : runF C d m_Week_live (36, [l0, some (.ref a1), l2, l3, l4, l5, l6], [], σ) = bk C d m_Week_live 37 [l0, some (.ref a1), l2, l3, l4, l5, l6] [] (C m_Lift_sleep [.ref a1] σ) := by
  refine (r_aloadn 1 (show decode (zb m_Week_live) 36 = .ok (.aload_n 1, 1) from by decide +kernel) rfl).trans ?_
  exact r_virt (args := []) (rest := []) (show decode (zb m_Week_live) 37 = .ok (.invokevirtual 19, 3) from by decide +kernel) rfl rfl rfl h1
theorem b_Week_live_40 {C : CF} {d : Nat} {σ : HP} {x5 : Int32} {l0 : Option Value} {l1 : Option Value} {l2 : Option Value} {l3 : Option Value} {l4 : Option Value} {l6 : Option Value}  : runF C d m_Week_live (40, [l0, l1, l2, l3, l4, some (.int x5), l6], [], σ) = runF C d m_Week_live (8, [l0, l1, l2, l3, l4, some (.int (x5 + (1 : Int32))), l6], [], σ) := by
  refine (r_iinc 5 (v := (1 : Int32)) (show decode (zb m_Week_live) 40 = .ok (.iinc 5 (1), 3) from by decide +kernel) rfl rfl (by decide)).trans ?_
  exact r_goto 8 (show decode (zb m_Week_live) 43 = .ok (.goto (-35), 3) from by decide +kernel) rfl
theorem b_Week_live_46 {C : CF} {d : Nat} {σ : HP} {l0 : Option Value} {l1 : Option Value} {l2 : Option Value} {l3 : Option Value} {l4 : Option Value} {l5 : Option Value} {l6 : Option Value}  : runF C d m_Week_live (46, [l0, l1, l2, l3, l4, l5, l6], [], σ) = some (.inl none, σ) := by
  exact r_vret (show decode (zb m_Week_live) 46 = .ok (.return_, 1) from by decide +kernel) rfl
theorem e_Week_doOnce {d : Nat} {σ : HP} {a0 : Nat} {a1 : Nat} {x2 : Int32} : callF (d + 1) m_Week_doOnce [.ref a0, .ref a1, .int x2] σ = runF (callF d) d m_Week_doOnce (0, [some (.ref a0), some (.ref a1), some (.int x2), none, none], [], σ) := callF_in rfl rfl
theorem b_Week_doOnce_0 {C : CF} {d : Nat} {σ : HP} {a1 : Nat} {l0 : Option Value} {l2 : Option Value} {l3 : Option Value} {l4 : Option Value} (h1 : a1 % 64 = 5) (h2 : (gR σ a1 0).isSome = true) (h3 : (dr (gR σ a1 0)) % 64 = 2) : runF C d m_Week_doOnce (0, [l0, some (.ref a1), l2, l3, l4], [], σ) = if (gI σ (dr (gR σ a1 0)) 1) = 0 then runF C d m_Week_doOnce (20, [l0, some (.ref a1), l2, l3, l4], [], σ) else runF C d m_Week_doOnce (10, [l0, some (.ref a1), l2, l3, l4], [], σ) := by
  refine (r_aloadn 1 (show decode (zb m_Week_doOnce) 0 = .ok (.aload_n 1, 1) from by decide +kernel) rfl).trans ?_
  refine (r_getR (show decode (zb m_Week_doOnce) 1 = .ok (.getfield 24, 3) from by decide +kernel) rfl rfl h1 h2).trans ?_
  refine (r_getI (show decode (zb m_Week_doOnce) 4 = .ok (.getfield 28, 3) from by decide +kernel) rfl rfl h3).trans ?_
  exact r_if_eq 20 (show decode (zb m_Week_doOnce) 7 = .ok (.ifCond .eq (13), 3) from by decide +kernel) rfl
theorem b_Week_doOnce_10 {C : CF} {d : Nat} {σ : HP} {a1 : Nat} {l0 : Option Value} {l2 : Option Value} {l3 : Option Value} {l4 : Option Value} (h1 : a1 % 64 = 5) (h2 : (gR σ a1 0).isSome = true) (h3 : (dr (gR σ a1 0)) % 64 = 2) : runF C d m_Week_doOnce (10, [l0, some (.ref a1), l2, l3, l4], [], σ) = if ¬ (gI σ (dr (gR σ a1 0)) 2) = 0 then runF C d m_Week_doOnce (21, [l0, some (.ref a1), l2, l3, l4], [], σ) else runF C d m_Week_doOnce (20, [l0, some (.ref a1), l2, l3, l4], [], σ) := by
  refine (r_aloadn 1 (show decode (zb m_Week_doOnce) 10 = .ok (.aload_n 1, 1) from by decide +kernel) rfl).trans ?_
  refine (r_getR (show decode (zb m_Week_doOnce) 11 = .ok (.getfield 24, 3) from by decide +kernel) rfl rfl h1 h2).trans ?_
  refine (r_getI (show decode (zb m_Week_doOnce) 14 = .ok (.getfield 33, 3) from by decide +kernel) rfl rfl h3).trans ?_
  exact r_if_ne 21 (show decode (zb m_Week_doOnce) 17 = .ok (.ifCond .ne (4), 3) from by decide +kernel) rfl
theorem b_Week_doOnce_20 {C : CF} {d : Nat} {σ : HP} {l0 : Option Value} {l1 : Option Value} {l2 : Option Value} {l3 : Option Value} {l4 : Option Value}  : runF C d m_Week_doOnce (20, [l0, l1, l2, l3, l4], [], σ) = some (.inl none, σ) := by
  exact r_vret (show decode (zb m_Week_doOnce) 20 = .ok (.return_, 1) from by decide +kernel) rfl
theorem b_Week_doOnce_21 {C : CF} {d : Nat} {σ : HP} {a0 : Nat} {a1 : Nat} {l2 : Option Value} {l3 : Option Value} {l4 : Option Value} (h1 : a1 % 64 = 5) (h2 : (gR σ a1 0).isSome = true) (h3 : (dr (gR σ a1 0)) % 64 = 2) (h4 : a0 % 64 = 9) : runF C d m_Week_doOnce (21, [some (.ref a0), some (.ref a1), l2, l3, l4], [], σ) = bk C d m_Week_doOnce 29 [some (.ref a0), some (.ref a1), l2, l3, l4] [] (C m_Week_draw [.ref a0, .int (gI σ (dr (gR σ a1 0)) 1)] σ) := by
  refine (r_aloadn 0 (show decode (zb m_Week_doOnce) 21 = .ok (.aload_n 0, 1) from by decide +kernel) rfl).trans ?_
  refine (r_aloadn 1 (show decode (zb m_Week_doOnce) 22 = .ok (.aload_n 1, 1) from by decide +kernel) rfl).trans ?_
  refine (r_getR (show decode (zb m_Week_doOnce) 23 = .ok (.getfield 24, 3) from by decide +kernel) rfl rfl h1 h2).trans ?_
  refine (r_getI (show decode (zb m_Week_doOnce) 26 = .ok (.getfield 28, 3) from by decide +kernel) rfl rfl h3).trans ?_
  exact r_virt (args := [.int (gI σ (dr (gR σ a1 0)) 1)]) (rest := []) (show decode (zb m_Week_doOnce) 29 = .ok (.invokevirtual 36, 3) from by decide +kernel) rfl rfl rfl h4
theorem b_Week_doOnce_32 {C : CF} {d : Nat} {σ : HP} {s0 : Int32} {a0 : Nat} {a1 : Nat} {l2 : Option Value} {l3 : Option Value} {l4 : Option Value} (h1 : a1 % 64 = 5) (h2 : (gR σ a1 0).isSome = true) (h3 : (dr (gR σ a1 0)) % 64 = 2) (h4 : a0 % 64 = 9) : runF C d m_Week_doOnce (32, [some (.ref a0), some (.ref a1), l2, l3, l4], [.int s0], σ) = bk C d m_Week_doOnce 41 [some (.ref a0), some (.ref a1), l2, some (.int s0), l4] [] (C m_Week_draw [.ref a0, .int (gI σ (dr (gR σ a1 0)) 2)] σ) := by
  refine (r_istoren 3 (show decode (zb m_Week_doOnce) 32 = .ok (.istore_n 3, 1) from by decide +kernel) rfl).trans ?_
  refine (r_aloadn 0 (show decode (zb m_Week_doOnce) 33 = .ok (.aload_n 0, 1) from by decide +kernel) rfl).trans ?_
  refine (r_aloadn 1 (show decode (zb m_Week_doOnce) 34 = .ok (.aload_n 1, 1) from by decide +kernel) rfl).trans ?_
  refine (r_getR (show decode (zb m_Week_doOnce) 35 = .ok (.getfield 24, 3) from by decide +kernel) rfl rfl h1 h2).trans ?_
  refine (r_getI (show decode (zb m_Week_doOnce) 38 = .ok (.getfield 33, 3) from by decide +kernel) rfl rfl h3).trans ?_
  exact r_virt (args := [.int (gI σ (dr (gR σ a1 0)) 2)]) (rest := []) (show decode (zb m_Week_doOnce) 41 = .ok (.invokevirtual 36, 3) from by decide +kernel) rfl rfl rfl h4
theorem b_Week_doOnce_44 {C : CF} {d : Nat} {σ : HP} {s0 : Int32} {a1 : Nat} {x3 : Int32} {l0 : Option Value} {l2 : Option Value} {l4 : Option Value} (h1 : a1 % 64 = 5) : runF C d m_Week_doOnce (44, [l0, some (.ref a1), l2, some (.int x3), l4], [.int s0], σ) = bk C d m_Week_doOnce 50 [l0, some (.ref a1), l2, some (.int x3), some (.int s0)] [] (C m_Lift_sayTo [.ref a1, .int x3, .int s0] σ) := by
  refine (r_istore 4 (show decode (zb m_Week_doOnce) 44 = .ok (.istore 4, 2) from by decide +kernel) rfl).trans ?_
  refine (r_aloadn 1 (show decode (zb m_Week_doOnce) 46 = .ok (.aload_n 1, 1) from by decide +kernel) rfl).trans ?_
  refine (r_iloadn 3 (show decode (zb m_Week_doOnce) 47 = .ok (.iload_n 3, 1) from by decide +kernel) rfl).trans ?_
  refine (r_iload 4 (show decode (zb m_Week_doOnce) 48 = .ok (.iload 4, 2) from by decide +kernel) rfl).trans ?_
  exact r_virt (args := [.int x3, .int s0]) (rest := []) (show decode (zb m_Week_doOnce) 50 = .ok (.invokevirtual 40, 3) from by decide +kernel) rfl rfl rfl h1
theorem b_Week_doOnce_53 {C : CF} {d : Nat} {σ : HP} {s0 : Int32} {a1 : Nat} {x3 : Int32} {l0 : Option Value} {l2 : Option Value} {l4 : Option Value} (h1 : a1 % 64 = 5) : runF C d m_Week_doOnce (53, [l0, some (.ref a1), l2, some (.int x3), l4], [.int s0], σ) = bk C d m_Week_doOnce 56 [l0, some (.ref a1), l2, some (.int x3), l4] [] (C m_Lift_letIn [.ref a1, .int x3] σ) := by
  refine (r_popI (show decode (zb m_Week_doOnce) 53 = .ok (.pop, 1) from by decide +kernel)).trans ?_
  refine (r_aloadn 1 (show decode (zb m_Week_doOnce) 54 = .ok (.aload_n 1, 1) from by decide +kernel) rfl).trans ?_
  refine (r_iloadn 3 (show decode (zb m_Week_doOnce) 55 = .ok (.iload_n 3, 1) from by decide +kernel) rfl).trans ?_
  exact r_virt (args := [.int x3]) (rest := []) (show decode (zb m_Week_doOnce) 56 = .ok (.invokevirtual 44, 3) from by decide +kernel) rfl rfl rfl h1
theorem b_Week_doOnce_59 {C : CF} {d : Nat} {σ : HP} {s0 : Int32} {l0 : Option Value} {l1 : Option Value} {l2 : Option Value} {l3 : Option Value} {l4 : Option Value}  : runF C d m_Week_doOnce (59, [l0, l1, l2, l3, l4], [.int s0], σ) = if ¬ s0 = 0 then runF C d m_Week_doOnce (68, [l0, l1, l2, l3, l4], [], σ) else runF C d m_Week_doOnce (62, [l0, l1, l2, l3, l4], [], σ) := by
  exact r_if_ne 68 (show decode (zb m_Week_doOnce) 59 = .ok (.ifCond .ne (9), 3) from by decide +kernel) rfl
theorem b_Week_doOnce_62 {C : CF} {d : Nat} {σ : HP} {a1 : Nat} {x3 : Int32} {l0 : Option Value} {l2 : Option Value} {l4 : Option Value} (h1 : a1 % 64 = 5) : runF C d m_Week_doOnce (62, [l0, some (.ref a1), l2, some (.int x3), l4], [], σ) = bk C d m_Week_doOnce 64 [l0, some (.ref a1), l2, some (.int x3), l4] [] (C m_Lift_letOut [.ref a1, .int x3] σ) := by
  refine (r_aloadn 1 (show decode (zb m_Week_doOnce) 62 = .ok (.aload_n 1, 1) from by decide +kernel) rfl).trans ?_
  refine (r_iloadn 3 (show decode (zb m_Week_doOnce) 63 = .ok (.iload_n 3, 1) from by decide +kernel) rfl).trans ?_
  exact r_virt (args := [.int x3]) (rest := []) (show decode (zb m_Week_doOnce) 64 = .ok (.invokevirtual 48, 3) from by decide +kernel) rfl rfl rfl h1
theorem b_Week_doOnce_67 {C : CF} {d : Nat} {σ : HP} {s0 : Int32} {l0 : Option Value} {l1 : Option Value} {l2 : Option Value} {l3 : Option Value} {l4 : Option Value}  : runF C d m_Week_doOnce (67, [l0, l1, l2, l3, l4], [.int s0], σ) = runF C d m_Week_doOnce (68, [l0, l1, l2, l3, l4], [], σ) := by
  exact r_popI (show decode (zb m_Week_doOnce) 67 = .ok (.pop, 1) from by decide +kernel)
theorem b_Week_doOnce_68 {C : CF} {d : Nat} {σ : HP} {a1 : Nat} {l0 : Option Value} {l2 : Option Value} {l3 : Option Value} {l4 : Option Value} (h1 : a1 % 64 = 5) : runF C d m_Week_doOnce (68, [l0, some (.ref a1), l2, l3, l4], [], σ) = bk C d m_Week_doOnce 69 [l0, some (.ref a1), l2, l3, l4] [] (C m_Lift_goOnce [.ref a1] σ) := by
  refine (r_aloadn 1 (show decode (zb m_Week_doOnce) 68 = .ok (.aload_n 1, 1) from by decide +kernel) rfl).trans ?_
  exact r_virt (args := []) (rest := []) (show decode (zb m_Week_doOnce) 69 = .ok (.invokevirtual 51, 3) from by decide +kernel) rfl rfl rfl h1
theorem b_Week_doOnce_72 {C : CF} {d : Nat} {σ : HP} {s0 : Int32} {a0 : Nat} {l1 : Option Value} {l2 : Option Value} {l3 : Option Value} {l4 : Option Value} (h1 : a0 % 64 = 9) : runF C d m_Week_doOnce (72, [some (.ref a0), l1, l2, l3, l4], [.int s0], σ) = bk C d m_Week_doOnce 76 [some (.ref a0), l1, l2, l3, l4] [] (C m_Week_draw [.ref a0, .int ((16 : Int32))] σ) := by
  refine (r_popI (show decode (zb m_Week_doOnce) 72 = .ok (.pop, 1) from by decide +kernel)).trans ?_
  refine (r_aloadn 0 (show decode (zb m_Week_doOnce) 73 = .ok (.aload_n 0, 1) from by decide +kernel) rfl).trans ?_
  refine (r_bipush (v := (16 : Int32)) (show decode (zb m_Week_doOnce) 74 = .ok (.bipush (16), 2) from by decide +kernel) (by decide)).trans ?_
  exact r_virt (args := [.int ((16 : Int32))]) (rest := []) (show decode (zb m_Week_doOnce) 76 = .ok (.invokevirtual 36, 3) from by decide +kernel) rfl rfl rfl h1
theorem b_Week_doOnce_79 {C : CF} {d : Nat} {σ : HP} {s0 : Int32} {x2 : Int32} {l0 : Option Value} {l1 : Option Value} {l3 : Option Value} {l4 : Option Value}  : runF C d m_Week_doOnce (79, [l0, l1, some (.int x2), l3, l4], [.int s0], σ) = if x2 ≤ s0 then runF C d m_Week_doOnce (89, [l0, l1, some (.int x2), l3, l4], [], σ) else runF C d m_Week_doOnce (83, [l0, l1, some (.int x2), l3, l4], [], σ) := by
  refine (r_iloadn 2 (show decode (zb m_Week_doOnce) 79 = .ok (.iload_n 2, 1) from by decide +kernel) rfl).trans ?_
  exact r_icmp_ge 89 (show decode (zb m_Week_doOnce) 80 = .ok (.if_icmp .ge (9), 3) from by decide +kernel) rfl
theorem b_Week_doOnce_83 {C : CF} {d : Nat} {σ : HP} {a1 : Nat} {x3 : Int32} {l0 : Option Value} {l2 : Option Value} {l4 : Option Value} (h1 : a1 % 64 = 5) : runF C d m_Week_doOnce (83, [l0, some (.ref a1), l2, some (.int x3), l4], [], σ) = bk C d m_Week_doOnce 85 [l0, some (.ref a1), l2, some (.int x3), l4] [] (C m_Lift_insultOne [.ref a1, .int x3] σ) := by
  refine (r_aloadn 1 (show decode (zb m_Week_doOnce) 83 = .ok (.aload_n 1, 1) from by decide +kernel) rfl).trans ?_
  refine (r_iloadn 3 (show decode (zb m_Week_doOnce) 84 = .ok (.iload_n 3, 1) from by decide +kernel) rfl).trans ?_
  exact r_virt (args := [.int x3]) (rest := []) (show decode (zb m_Week_doOnce) 85 = .ok (.invokevirtual 55, 3) from by decide +kernel) rfl rfl rfl h1
theorem b_Week_doOnce_88 {C : CF} {d : Nat} {σ : HP} {s0 : Int32} {l0 : Option Value} {l1 : Option Value} {l2 : Option Value} {l3 : Option Value} {l4 : Option Value}  : runF C d m_Week_doOnce (88, [l0, l1, l2, l3, l4], [.int s0], σ) = runF C d m_Week_doOnce (89, [l0, l1, l2, l3, l4], [], σ) := by
  exact r_popI (show decode (zb m_Week_doOnce) 88 = .ok (.pop, 1) from by decide +kernel)
theorem b_Week_doOnce_89 {C : CF} {d : Nat} {σ : HP} {l0 : Option Value} {l1 : Option Value} {l2 : Option Value} {l3 : Option Value} {l4 : Option Value}  : runF C d m_Week_doOnce (89, [l0, l1, l2, l3, l4], [], σ) = some (.inl none, σ) := by
  exact r_vret (show decode (zb m_Week_doOnce) 89 = .ok (.return_, 1) from by decide +kernel) rfl
theorem e_Week_draw {d : Nat} {σ : HP} {a0 : Nat} {x1 : Int32} : callF (d + 1) m_Week_draw [.ref a0, .int x1] σ = runF (callF d) d m_Week_draw (0, [some (.ref a0), some (.int x1), none], [], σ) := callF_in rfl rfl
theorem b_Week_draw_0 {C : CF} {d : Nat} {σ : HP} {a0 : Nat} {x1 : Int32} {l2 : Option Value} (h1 : a0 % 64 = 9) : runF C d m_Week_draw (0, [some (.ref a0), some (.int x1), l2], [], σ) = if x1 ≤ 0 then runF C d m_Week_draw (37, [some (.ref a0), some (.int x1), some (.int ((p_ushr (gI (wI σ a0 0 (((gI σ a0 0) * (1103515245 : Int32)) + (12345 : Int32))) a0 0) (16 : Int32)) &&& (32767 : Int32)))], [], wI σ a0 0 (((gI σ a0 0) * (1103515245 : Int32)) + (12345 : Int32))) else runF C d m_Week_draw (31, [some (.ref a0), some (.int x1), some (.int ((p_ushr (gI (wI σ a0 0 (((gI σ a0 0) * (1103515245 : Int32)) + (12345 : Int32))) a0 0) (16 : Int32)) &&& (32767 : Int32)))], [], wI σ a0 0 (((gI σ a0 0) * (1103515245 : Int32)) + (12345 : Int32))) := by
  refine (r_aloadn 0 (show decode (zb m_Week_draw) 0 = .ok (.aload_n 0, 1) from by decide +kernel) rfl).trans ?_
  refine (r_aloadn 0 (show decode (zb m_Week_draw) 1 = .ok (.aload_n 0, 1) from by decide +kernel) rfl).trans ?_
  refine (r_getI (show decode (zb m_Week_draw) 2 = .ok (.getfield 9, 3) from by decide +kernel) rfl rfl h1).trans ?_
  refine (r_ldcI (v := (1103515245 : Int32)) (show decode (zb m_Week_draw) 5 = .ok (.ldc 58, 2) from by decide +kernel) rfl).trans ?_
  refine (r_imul (show decode (zb m_Week_draw) 7 = .ok (.imul, 1) from by decide +kernel)).trans ?_
  refine (r_sipush (v := (12345 : Int32)) (show decode (zb m_Week_draw) 8 = .ok (.sipush (12345), 3) from by decide +kernel) (by decide)).trans ?_
  refine (r_iadd (show decode (zb m_Week_draw) 11 = .ok (.iadd, 1) from by decide +kernel)).trans ?_
  refine (r_putI (show decode (zb m_Week_draw) 12 = .ok (.putfield 9, 3) from by decide +kernel) rfl rfl rfl h1).trans ?_
  refine (r_aloadn 0 (show decode (zb m_Week_draw) 15 = .ok (.aload_n 0, 1) from by decide +kernel) rfl).trans ?_
  refine (r_getI (show decode (zb m_Week_draw) 16 = .ok (.getfield 9, 3) from by decide +kernel) rfl rfl h1).trans ?_
  refine (r_bipush (v := (16 : Int32)) (show decode (zb m_Week_draw) 19 = .ok (.bipush (16), 2) from by decide +kernel) (by decide)).trans ?_
  refine (r_iushr (show decode (zb m_Week_draw) 21 = .ok (.iushr, 1) from by decide +kernel)).trans ?_
  refine (r_sipush (v := (32767 : Int32)) (show decode (zb m_Week_draw) 22 = .ok (.sipush (32767), 3) from by decide +kernel) (by decide)).trans ?_
  refine (r_iand (show decode (zb m_Week_draw) 25 = .ok (.iand, 1) from by decide +kernel)).trans ?_
  refine (r_istoren 2 (show decode (zb m_Week_draw) 26 = .ok (.istore_n 2, 1) from by decide +kernel) rfl).trans ?_
  refine (r_iloadn 1 (show decode (zb m_Week_draw) 27 = .ok (.iload_n 1, 1) from by decide +kernel) rfl).trans ?_
  exact r_if_le 37 (show decode (zb m_Week_draw) 28 = .ok (.ifCond .le (9), 3) from by decide +kernel) rfl
theorem b_Week_draw_31 {C : CF} {d : Nat} {σ : HP} {x2 : Int32} {x1 : Int32} {l0 : Option Value} (h1 : ¬ x1 = 0) : runF C d m_Week_draw (31, [l0, some (.int x1), some (.int x2)], [], σ) = runF C d m_Week_draw (38, [l0, some (.int x1), some (.int x2)], [.int (p_rem x2 x1)], σ) := by
  refine (r_iloadn 2 (show decode (zb m_Week_draw) 31 = .ok (.iload_n 2, 1) from by decide +kernel) rfl).trans ?_
  refine (r_iloadn 1 (show decode (zb m_Week_draw) 32 = .ok (.iload_n 1, 1) from by decide +kernel) rfl).trans ?_
  refine (r_irem (show decode (zb m_Week_draw) 33 = .ok (.irem, 1) from by decide +kernel) h1).trans ?_
  exact r_goto 38 (show decode (zb m_Week_draw) 34 = .ok (.goto (4), 3) from by decide +kernel) rfl
theorem b_Week_draw_37 {C : CF} {d : Nat} {σ : HP} {l0 : Option Value} {l1 : Option Value} {l2 : Option Value}  : runF C d m_Week_draw (37, [l0, l1, l2], [], σ) = runF C d m_Week_draw (38, [l0, l1, l2], [.int ((0 : Int32))], σ) := by
  exact r_iconst (v := (0 : Int32)) (show decode (zb m_Week_draw) 37 = .ok (.iconst (0), 1) from by decide +kernel) (by decide)
theorem b_Week_draw_38 {C : CF} {d : Nat} {σ : HP} {s0 : Int32} {l0 : Option Value} {l1 : Option Value} {l2 : Option Value}  : runF C d m_Week_draw (38, [l0, l1, l2], [.int s0], σ) = some (.inl (some (.int s0)), σ) := by
  exact r_iret (show decode (zb m_Week_draw) 38 = .ok (.ireturn, 1) from by decide +kernel) rfl rfl
theorem e_Work_init {d : Nat} {σ : HP} {a0 : Nat} : callF (d + 1) m_Work_init [.ref a0] σ = runF (callF d) d m_Work_init (0, [some (.ref a0)], [], σ) := callF_in rfl rfl
theorem b_Work_init_0 {C : CF} {d : Nat} {σ : HP} {a0 : Nat} (h1 : a0 % 64 = 10) : runF C d m_Work_init (0, [some (.ref a0)], [], σ) = some (.inl none, wI (wI (wI (wI (wR (hA (wR (hA (wR (hA σ 29 150) a0 0 (some (29 + 64 * hN σ))) 29 150) a0 1 (some (29 + 64 * (hN σ + 1)))) 29 150) a0 2 (some (29 + 64 * (hN σ + 2)))) a0 3 (0 : Int32)) a0 4 (0 : Int32)) a0 5 (0 : Int32)) a0 6 (0 : Int32)) := by
  refine (r_aloadn 0 (show decode (zb m_Work_init) 0 = .ok (.aload_n 0, 1) from by decide +kernel) rfl).trans ?_
  refine (r_obj (show decode (zb m_Work_init) 1 = .ok (.invokespecial 3, 3) from by decide +kernel) rfl (by have := h1; omega) rfl).trans ?_
  refine (r_aloadn 0 (show decode (zb m_Work_init) 4 = .ok (.aload_n 0, 1) from by decide +kernel) rfl).trans ?_
  refine (r_sipush (v := (150 : Int32)) (show decode (zb m_Work_init) 5 = .ok (.sipush (150), 3) from by decide +kernel) (by decide)).trans ?_
  refine (r_arrI (k := 29) (show decode (zb m_Work_init) 8 = .ok (.newarray .int, 2) from by decide +kernel) (by decide) (by decide)).trans ?_
  refine (r_putR (show decode (zb m_Work_init) 10 = .ok (.putfield 9, 3) from by decide +kernel) rfl rfl rfl h1).trans ?_
  refine (r_aloadn 0 (show decode (zb m_Work_init) 13 = .ok (.aload_n 0, 1) from by decide +kernel) rfl).trans ?_
  refine (r_sipush (v := (150 : Int32)) (show decode (zb m_Work_init) 14 = .ok (.sipush (150), 3) from by decide +kernel) (by decide)).trans ?_
  refine (r_arrI (k := 29) (show decode (zb m_Work_init) 17 = .ok (.newarray .int, 2) from by decide +kernel) (by decide) (by decide)).trans ?_
  refine (r_putR (show decode (zb m_Work_init) 19 = .ok (.putfield 15, 3) from by decide +kernel) rfl rfl rfl h1).trans ?_
  refine (r_aloadn 0 (show decode (zb m_Work_init) 22 = .ok (.aload_n 0, 1) from by decide +kernel) rfl).trans ?_
  refine (r_sipush (v := (150 : Int32)) (show decode (zb m_Work_init) 23 = .ok (.sipush (150), 3) from by decide +kernel) (by decide)).trans ?_
  refine (r_arrI (k := 29) (show decode (zb m_Work_init) 26 = .ok (.newarray .int, 2) from by decide +kernel) (by decide) (by decide)).trans ?_
  refine (r_putR (show decode (zb m_Work_init) 28 = .ok (.putfield 18, 3) from by decide +kernel) rfl rfl rfl h1).trans ?_
  refine (r_aloadn 0 (show decode (zb m_Work_init) 31 = .ok (.aload_n 0, 1) from by decide +kernel) rfl).trans ?_
  refine (r_iconst (v := (0 : Int32)) (show decode (zb m_Work_init) 32 = .ok (.iconst (0), 1) from by decide +kernel) (by decide)).trans ?_
  refine (r_putI (show decode (zb m_Work_init) 33 = .ok (.putfield 21, 3) from by decide +kernel) rfl rfl rfl h1).trans ?_
  refine (r_aloadn 0 (show decode (zb m_Work_init) 36 = .ok (.aload_n 0, 1) from by decide +kernel) rfl).trans ?_
  refine (r_iconst (v := (0 : Int32)) (show decode (zb m_Work_init) 37 = .ok (.iconst (0), 1) from by decide +kernel) (by decide)).trans ?_
  refine (r_putI (show decode (zb m_Work_init) 38 = .ok (.putfield 25, 3) from by decide +kernel) rfl rfl rfl h1).trans ?_
  refine (r_aloadn 0 (show decode (zb m_Work_init) 41 = .ok (.aload_n 0, 1) from by decide +kernel) rfl).trans ?_
  refine (r_iconst (v := (0 : Int32)) (show decode (zb m_Work_init) 42 = .ok (.iconst (0), 1) from by decide +kernel) (by decide)).trans ?_
  refine (r_putI (show decode (zb m_Work_init) 43 = .ok (.putfield 28, 3) from by decide +kernel) rfl rfl rfl h1).trans ?_
  refine (r_aloadn 0 (show decode (zb m_Work_init) 46 = .ok (.aload_n 0, 1) from by decide +kernel) rfl).trans ?_
  refine (r_iconst (v := (0 : Int32)) (show decode (zb m_Work_init) 47 = .ok (.iconst (0), 1) from by decide +kernel) (by decide)).trans ?_
  refine (r_putI (show decode (zb m_Work_init) 48 = .ok (.putfield 31, 3) from by decide +kernel) rfl rfl rfl h1).trans ?_
  exact r_vret (show decode (zb m_Work_init) 51 = .ok (.return_, 1) from by decide +kernel) rfl
theorem e_Work_wipe {d : Nat} {σ : HP} {a0 : Nat} : callF (d + 1) m_Work_wipe [.ref a0] σ = runF (callF d) d m_Work_wipe (0, [some (.ref a0)], [], σ) := callF_in rfl rfl
theorem b_Work_wipe_0 {C : CF} {d : Nat} {σ : HP} {a0 : Nat} (h1 : a0 % 64 = 10) : runF C d m_Work_wipe (0, [some (.ref a0)], [], σ) = some (.inl none, wI (wI (wI (wI σ a0 3 (0 : Int32)) a0 4 (0 : Int32)) a0 5 (0 : Int32)) a0 6 (0 : Int32)) := by
  refine (r_aloadn 0 (show decode (zb m_Work_wipe) 0 = .ok (.aload_n 0, 1) from by decide +kernel) rfl).trans ?_
  refine (r_iconst (v := (0 : Int32)) (show decode (zb m_Work_wipe) 1 = .ok (.iconst (0), 1) from by decide +kernel) (by decide)).trans ?_
  refine (r_putI (show decode (zb m_Work_wipe) 2 = .ok (.putfield 21, 3) from by decide +kernel) rfl rfl rfl h1).trans ?_
  refine (r_aloadn 0 (show decode (zb m_Work_wipe) 5 = .ok (.aload_n 0, 1) from by decide +kernel) rfl).trans ?_
  refine (r_iconst (v := (0 : Int32)) (show decode (zb m_Work_wipe) 6 = .ok (.iconst (0), 1) from by decide +kernel) (by decide)).trans ?_
  refine (r_putI (show decode (zb m_Work_wipe) 7 = .ok (.putfield 25, 3) from by decide +kernel) rfl rfl rfl h1).trans ?_
  refine (r_aloadn 0 (show decode (zb m_Work_wipe) 10 = .ok (.aload_n 0, 1) from by decide +kernel) rfl).trans ?_
  refine (r_iconst (v := (0 : Int32)) (show decode (zb m_Work_wipe) 11 = .ok (.iconst (0), 1) from by decide +kernel) (by decide)).trans ?_
  refine (r_putI (show decode (zb m_Work_wipe) 12 = .ok (.putfield 28, 3) from by decide +kernel) rfl rfl rfl h1).trans ?_
  refine (r_aloadn 0 (show decode (zb m_Work_wipe) 15 = .ok (.aload_n 0, 1) from by decide +kernel) rfl).trans ?_
  refine (r_iconst (v := (0 : Int32)) (show decode (zb m_Work_wipe) 16 = .ok (.iconst (0), 1) from by decide +kernel) (by decide)).trans ?_
  refine (r_putI (show decode (zb m_Work_wipe) 17 = .ok (.putfield 31, 3) from by decide +kernel) rfl rfl rfl h1).trans ?_
  exact r_vret (show decode (zb m_Work_wipe) 20 = .ok (.return_, 1) from by decide +kernel) rfl
theorem e_Work_readSteps {d : Nat} {σ : HP} {a0 : Nat} {a1 : Nat} {a2 : Nat} {x3 : Int32} : callF (d + 1) m_Work_readSteps [.ref a0, .ref a1, .ref a2, .int x3] σ = runF (callF d) d m_Work_readSteps (0, [some (.ref a0), some (.ref a1), some (.ref a2), some (.int x3), none, none], [], σ) := callF_in rfl rfl
theorem b_Work_readSteps_0 {C : CF} {d : Nat} {σ : HP} {x3 : Int32} {l0 : Option Value} {l1 : Option Value} {l2 : Option Value} {l4 : Option Value} {l5 : Option Value}  : runF C d m_Work_readSteps (0, [l0, l1, l2, some (.int x3), l4, l5], [], σ) = if ¬ x3 = 0 then runF C d m_Work_readSteps (8, [l0, l1, l2, some (.int x3), l4, l5], [], σ) else runF C d m_Work_readSteps (4, [l0, l1, l2, some (.int x3), l4, l5], [], σ) := by
  refine (r_iloadn 3 (show decode (zb m_Work_readSteps) 0 = .ok (.iload_n 3, 1) from by decide +kernel) rfl).trans ?_
  exact r_if_ne 8 (show decode (zb m_Work_readSteps) 1 = .ok (.ifCond .ne (7), 3) from by decide +kernel) rfl
theorem b_Work_readSteps_4 {C : CF} {d : Nat} {σ : HP} {l0 : Option Value} {l1 : Option Value} {l2 : Option Value} {l3 : Option Value} {l4 : Option Value} {l5 : Option Value}  : runF C d m_Work_readSteps (4, [l0, l1, l2, l3, l4, l5], [], σ) = runF C d m_Work_readSteps (10, [l0, l1, l2, l3, l4, l5], [.int ((-1 : Int32))], σ) := by
  refine (r_iconst (v := (-1 : Int32)) (show decode (zb m_Work_readSteps) 4 = .ok (.iconst (-1), 1) from by decide +kernel) (by decide)).trans ?_
  exact r_goto 10 (show decode (zb m_Work_readSteps) 5 = .ok (.goto (5), 3) from by decide +kernel) rfl
theorem b_Work_readSteps_8 {C : CF} {d : Nat} {σ : HP} {l0 : Option Value} {l1 : Option Value} {l2 : Option Value} {l3 : Option Value} {l4 : Option Value} {l5 : Option Value}  : runF C d m_Work_readSteps (8, [l0, l1, l2, l3, l4, l5], [], σ) = runF C d m_Work_readSteps (10, [l0, l1, l2, l3, l4, l5], [.int ((93 : Int32))], σ) := by
  exact r_bipush (v := (93 : Int32)) (show decode (zb m_Work_readSteps) 8 = .ok (.bipush (93), 2) from by decide +kernel) (by decide)
theorem b_Work_readSteps_10 {C : CF} {d : Nat} {σ : HP} {s0 : Int32} {l0 : Option Value} {l1 : Option Value} {l2 : Option Value} {l3 : Option Value} {l4 : Option Value} {l5 : Option Value}  : runF C d m_Work_readSteps (10, [l0, l1, l2, l3, l4, l5], [.int s0], σ) = runF C d m_Work_readSteps (15, [l0, l1, l2, l3, some (.int s0), some (.int ((0 : Int32)))], [], σ) := by
  refine (r_istore 4 (show decode (zb m_Work_readSteps) 10 = .ok (.istore 4, 2) from by decide +kernel) rfl).trans ?_
  refine (r_iconst (v := (0 : Int32)) (show decode (zb m_Work_readSteps) 12 = .ok (.iconst (0), 1) from by decide +kernel) (by decide)).trans ?_
  exact r_istore 5 (show decode (zb m_Work_readSteps) 13 = .ok (.istore 5, 2) from by decide +kernel) rfl
theorem b_Work_readSteps_15 {C : CF} {d : Nat} {σ : HP} {x5 : Int32} {l0 : Option Value} {l1 : Option Value} {l2 : Option Value} {l3 : Option Value} {l4 : Option Value}  : runF C d m_Work_readSteps (15, [l0, l1, l2, l3, l4, some (.int x5)], [], σ) = if (150 : Int32) ≤ x5 then runF C d m_Work_readSteps (59, [l0, l1, l2, l3, l4, some (.int x5)], [], σ) else runF C d m_Work_readSteps (23, [l0, l1, l2, l3, l4, some (.int x5)], [], σ) := by
  refine (r_iload 5 (show decode (zb m_Work_readSteps) 15 = .ok (.iload 5, 2) from by decide +kernel) rfl).trans ?_
  refine (r_sipush (v := (150 : Int32)) (show decode (zb m_Work_readSteps) 17 = .ok (.sipush (150), 3) from by decide +kernel) (by decide)).trans ?_
  exact r_icmp_ge 59 (show decode (zb m_Work_readSteps) 20 = .ok (.if_icmp .ge (39), 3) from by decide +kernel) rfl
theorem b_Work_readSteps_23 {C : CF} {d : Nat} {σ : HP} {a1 : Nat} {l0 : Option Value} {l2 : Option Value} {l3 : Option Value} {l4 : Option Value} {l5 : Option Value} (h1 : a1 % 64 = 7) : runF C d m_Work_readSteps (23, [l0, some (.ref a1), l2, l3, l4, l5], [], σ) = bk C d m_Work_readSteps 24 [l0, some (.ref a1), l2, l3, l4, l5] [] (C m_Reader_failed [.ref a1] σ) := by
  refine (r_aloadn 1 (show decode (zb m_Work_readSteps) 23 = .ok (.aload_n 1, 1) from by decide +kernel) rfl).trans ?_
  exact r_virt (args := []) (rest := []) (show decode (zb m_Work_readSteps) 24 = .ok (.invokevirtual 36, 3) from by decide +kernel) rfl rfl rfl h1
theorem b_Work_readSteps_27 {C : CF} {d : Nat} {σ : HP} {s0 : Int32} {l0 : Option Value} {l1 : Option Value} {l2 : Option Value} {l3 : Option Value} {l4 : Option Value} {l5 : Option Value}  : runF C d m_Work_readSteps (27, [l0, l1, l2, l3, l4, l5], [.int s0], σ) = if ¬ s0 = 0 then runF C d m_Work_readSteps (39, [l0, l1, l2, l3, l4, l5], [], σ) else runF C d m_Work_readSteps (30, [l0, l1, l2, l3, l4, l5], [], σ) := by
  exact r_if_ne 39 (show decode (zb m_Work_readSteps) 27 = .ok (.ifCond .ne (12), 3) from by decide +kernel) rfl
theorem b_Work_readSteps_30 {C : CF} {d : Nat} {σ : HP} {a1 : Nat} {l0 : Option Value} {l2 : Option Value} {l3 : Option Value} {l4 : Option Value} {l5 : Option Value} (h1 : a1 % 64 = 7) : runF C d m_Work_readSteps (30, [l0, some (.ref a1), l2, l3, l4, l5], [], σ) = bk C d m_Work_readSteps 31 [l0, some (.ref a1), l2, l3, l4, l5] [] (C m_Reader_peek [.ref a1] σ) := by
  refine (r_aloadn 1 (show decode (zb m_Work_readSteps) 30 = .ok (.aload_n 1, 1) from by decide +kernel) rfl).trans ?_
  exact r_virt (args := []) (rest := []) (show decode (zb m_Work_readSteps) 31 = .ok (.invokevirtual 40, 3) from by decide +kernel) rfl rfl rfl h1
theorem b_Work_readSteps_34 {C : CF} {d : Nat} {σ : HP} {s0 : Int32} {x4 : Int32} {l0 : Option Value} {l1 : Option Value} {l2 : Option Value} {l3 : Option Value} {l5 : Option Value}  : runF C d m_Work_readSteps (34, [l0, l1, l2, l3, some (.int x4), l5], [.int s0], σ) = if ¬ s0 = x4 then runF C d m_Work_readSteps (40, [l0, l1, l2, l3, some (.int x4), l5], [], σ) else runF C d m_Work_readSteps (39, [l0, l1, l2, l3, some (.int x4), l5], [], σ) := by
  refine (r_iload 4 (show decode (zb m_Work_readSteps) 34 = .ok (.iload 4, 2) from by decide +kernel) rfl).trans ?_
  exact r_icmp_ne 40 (show decode (zb m_Work_readSteps) 36 = .ok (.if_icmp .ne (4), 3) from by decide +kernel) rfl
theorem b_Work_readSteps_39 {C : CF} {d : Nat} {σ : HP} {l0 : Option Value} {l1 : Option Value} {l2 : Option Value} {l3 : Option Value} {l4 : Option Value} {l5 : Option Value}  : runF C d m_Work_readSteps (39, [l0, l1, l2, l3, l4, l5], [], σ) = some (.inl none, σ) := by
  exact r_vret (show decode (zb m_Work_readSteps) 39 = .ok (.return_, 1) from by decide +kernel) rfl
theorem b_Work_readSteps_40 {C : CF} {d : Nat} {σ : HP} {a0 : Nat} {a1 : Nat} {a2 : Nat} {x3 : Int32} {l4 : Option Value} {l5 : Option Value} (h1 : a0 % 64 = 10) : runF C d m_Work_readSteps (40, [some (.ref a0), some (.ref a1), some (.ref a2), some (.int x3), l4, l5], [], σ) = bk C d m_Work_readSteps 44 [some (.ref a0), some (.ref a1), some (.ref a2), some (.int x3), l4, l5] [] (C m_Work_readStep [.ref a0, .ref a1, .ref a2, .int x3] σ) := by
  refine (r_aloadn 0 (show decode (zb m_Work_readSteps) 40 = .ok (.aload_n 0, 1) from by decide +kernel) rfl).trans ?_
  refine (r_aloadn 1 (show decode (zb m_Work_readSteps) 41 = .ok (.aload_n 1, 1) from by decide +kernel) rfl).trans ?_
  refine (r_aloadn 2 (show decode (zb m_Work_readSteps) 42 = .ok (.aload_n 2, 1) from by decide +kernel) rfl).trans ?_
  refine (r_iloadn 3 (show decode (zb m_Work_readSteps) 43 = .ok (.iload_n 3, 1) from by decide +kernel) rfl).trans ?_
  exact r_virt (args := [.ref a1, .ref a2, .int x3]) (rest := []) (show decode (zb m_Work_readSteps) 44 = .ok (.invokevirtual 44, 3) from by decide +kernel) rfl rfl rfl h1
theorem b_Work_readSteps_47 {C : CF} {d : Nat} {σ : HP} {a1 : Nat} {l0 : Option Value} {l2 : Option Value} {l3 : Option Value} {l4 : Option Value} {l5 : Option Value} (h1 : a1 % 64 = 7) : runF C d m_Work_readSteps (47, [l0, some (.ref a1), l2, l3, l4, l5], [], σ) = bk C d m_Work_readSteps 50 [l0, some (.ref a1), l2, l3, l4, l5] [] (C m_Reader_needSign [.ref a1, .int ((59 : Int32))] σ) := by
  refine (r_aloadn 1 (show decode (zb m_Work_readSteps) 47 = .ok (.aload_n 1, 1) from by decide +kernel) rfl).trans ?_
  refine (r_bipush (v := (59 : Int32)) (show decode (zb m_Work_readSteps) 48 = .ok (.bipush (59), 2) from by decide +kernel) (by decide)).trans ?_
  exact r_virt (args := [.int ((59 : Int32))]) (rest := []) (show decode (zb m_Work_readSteps) 50 = .ok (.invokevirtual 48, 3) from by decide +kernel) rfl rfl rfl h1
theorem b_Work_readSteps_53 {C : CF} {d : Nat} {σ : HP} {x5 : Int32} {l0 : Option Value} {l1 : Option Value} {l2 : Option Value} {l3 : Option Value} {l4 : Option Value}  : runF C d m_Work_readSteps (53, [l0, l1, l2, l3, l4, some (.int x5)], [], σ) = runF C d m_Work_readSteps (15, [l0, l1, l2, l3, l4, some (.int (x5 + (1 : Int32)))], [], σ) := by
  refine (r_iinc 5 (v := (1 : Int32)) (show decode (zb m_Work_readSteps) 53 = .ok (.iinc 5 (1), 3) from by decide +kernel) rfl rfl (by decide)).trans ?_
  exact r_goto 15 (show decode (zb m_Work_readSteps) 56 = .ok (.goto (-41), 3) from by decide +kernel) rfl
theorem b_Work_readSteps_59 {C : CF} {d : Nat} {σ : HP} {l0 : Option Value} {l1 : Option Value} {l2 : Option Value} {l3 : Option Value} {l4 : Option Value} {l5 : Option Value}  : runF C d m_Work_readSteps (59, [l0, l1, l2, l3, l4, l5], [], σ) = some (.inl none, σ) := by
  exact r_vret (show decode (zb m_Work_readSteps) 59 = .ok (.return_, 1) from by decide +kernel) rfl
theorem e_Work_readStep {d : Nat} {σ : HP} {a0 : Nat} {a1 : Nat} {a2 : Nat} {x3 : Int32} : callF (d + 1) m_Work_readStep [.ref a0, .ref a1, .ref a2, .int x3] σ = runF (callF d) d m_Work_readStep (0, [some (.ref a0), some (.ref a1), some (.ref a2), some (.int x3), none, none], [], σ) := callF_in rfl rfl
theorem b_Work_readStep_0 {C : CF} {d : Nat} {σ : HP} {a1 : Nat} {l0 : Option Value} {l2 : Option Value} {l3 : Option Value} {l4 : Option Value} {l5 : Option Value} (h1 : a1 % 64 = 7) : runF C d m_Work_readStep (0, [l0, some (.ref a1), l2, l3, l4, l5], [], σ) = bk C d m_Work_readStep 3 [l0, some (.ref a1), l2, l3, l4, l5] [] (C m_Reader_readWord [.ref a1, .ref 208] σ) := by
  refine (r_aloadn 1 (show decode (zb m_Work_readStep) 0 = .ok (.aload_n 1, 1) from by decide +kernel) rfl).trans ?_
  refine (r_ldcS (i := 3) (show decode (zb m_Work_readStep) 1 = .ok (.ldc 52, 2) from by decide +kernel) rfl rfl).trans ?_
  exact r_virt (args := [.ref 208]) (rest := []) (show decode (zb m_Work_readStep) 3 = .ok (.invokevirtual 54, 3) from by decide +kernel) rfl rfl rfl h1
theorem b_Work_readStep_6 {C : CF} {d : Nat} {σ : HP} {s0 : Int32} {a0 : Nat} {l1 : Option Value} {l2 : Option Value} {l3 : Option Value} {l4 : Option Value} {l5 : Option Value} (h1 : a0 % 64 = 10) (h2 : (gR (wI σ a0 3 ((gI σ a0 3) + (1 : Int32))) a0 0).isSome = true) : runF C d m_Work_readStep (6, [some (.ref a0), l1, l2, l3, l4, l5], [.int s0], σ) = bkN C d m_Work_readStep 32 [some (.ref a0), l1, l2, l3, some (.int s0), some (.int (gI σ a0 3))] [] (C m_PL_put [.ref (dr (gR (wI σ a0 3 ((gI σ a0 3) + (1 : Int32))) a0 0)), .int (gI σ a0 3), .int s0] (wI σ a0 3 ((gI σ a0 3) + (1 : Int32)))) := by
  refine (r_istore 4 (show decode (zb m_Work_readStep) 6 = .ok (.istore 4, 2) from by decide +kernel) rfl).trans ?_
  refine (r_aloadn 0 (show decode (zb m_Work_readStep) 8 = .ok (.aload_n 0, 1) from by decide +kernel) rfl).trans ?_
  refine (r_getI (show decode (zb m_Work_readStep) 9 = .ok (.getfield 21, 3) from by decide +kernel) rfl rfl h1).trans ?_
  refine (r_istore 5 (show decode (zb m_Work_readStep) 12 = .ok (.istore 5, 2) from by decide +kernel) rfl).trans ?_
  refine (r_aloadn 0 (show decode (zb m_Work_readStep) 14 = .ok (.aload_n 0, 1) from by decide +kernel) rfl).trans ?_
  refine (r_dupR (show decode (zb m_Work_readStep) 15 = .ok (.dup, 1) from by decide +kernel)).trans ?_
  refine (r_getI (show decode (zb m_Work_readStep) 16 = .ok (.getfield 21, 3) from by decide +kernel) rfl rfl h1).trans ?_
  refine (r_iconst (v := (1 : Int32)) (show decode (zb m_Work_readStep) 19 = .ok (.iconst (1), 1) from by decide +kernel) (by decide)).trans ?_
  refine (r_iadd (show decode (zb m_Work_readStep) 20 = .ok (.iadd, 1) from by decide +kernel)).trans ?_
  refine (r_putI (show decode (zb m_Work_readStep) 21 = .ok (.putfield 21, 3) from by decide +kernel) rfl rfl rfl h1).trans ?_
  refine (r_aloadn 0 (show decode (zb m_Work_readStep) 24 = .ok (.aload_n 0, 1) from by decide +kernel) rfl).trans ?_
  refine (r_getR (show decode (zb m_Work_readStep) 25 = .ok (.getfield 9, 3) from by decide +kernel) rfl rfl h1 h2).trans ?_
  refine (r_iload 5 (show decode (zb m_Work_readStep) 28 = .ok (.iload 5, 2) from by decide +kernel) rfl).trans ?_
  refine (r_iload 4 (show decode (zb m_Work_readStep) 30 = .ok (.iload 4, 2) from by decide +kernel) rfl).trans ?_
  exact r_stat (args := [.ref (dr (gR (wI σ a0 3 ((gI σ a0 3) + (1 : Int32))) a0 0)), .int (gI σ a0 3), .int s0]) (rest := []) (show decode (zb m_Work_readStep) 32 = .ok (.invokestatic 58, 3) from by decide +kernel) rfl (by decide) rfl rfl
theorem b_Work_readStep_35 {C : CF} {d : Nat} {σ : HP} {x4 : Int32} {l0 : Option Value} {l1 : Option Value} {l2 : Option Value} {l3 : Option Value} {l5 : Option Value}  : runF C d m_Work_readStep (35, [l0, l1, l2, l3, some (.int x4), l5], [], σ) = if x4 = 0 then runF C d m_Work_readStep (84, [l0, l1, l2, l3, some (.int x4), l5], [], σ) else if x4 = 1 then runF C d m_Work_readStep (84, [l0, l1, l2, l3, some (.int x4), l5], [], σ) else if x4 = 2 then runF C d m_Work_readStep (107, [l0, l1, l2, l3, some (.int x4), l5], [], σ) else if x4 = 3 then runF C d m_Work_readStep (84, [l0, l1, l2, l3, some (.int x4), l5], [], σ) else if x4 = 4 then runF C d m_Work_readStep (205, [l0, l1, l2, l3, some (.int x4), l5], [], σ) else if x4 = 5 then runF C d m_Work_readStep (150, [l0, l1, l2, l3, some (.int x4), l5], [], σ) else if x4 = 6 then runF C d m_Work_readStep (205, [l0, l1, l2, l3, some (.int x4), l5], [], σ) else if x4 = 7 then runF C d m_Work_readStep (193, [l0, l1, l2, l3, some (.int x4), l5], [], σ) else runF C d m_Work_readStep (205, [l0, l1, l2, l3, some (.int x4), l5], [], σ) := by
  refine (r_iload 4 (show decode (zb m_Work_readStep) 35 = .ok (.iload 4, 2) from by decide +kernel) rfl).trans ?_
  by_cases q0 : x4 = 0
  · rw [if_pos q0]
    exact r_table 84 (show decode (zb m_Work_readStep) 37 = .ok (.tableswitch (168) (0) (7) #[(47), (47), (70), (47), (168), (113), (168), (156)], 47) from by decide +kernel) (tb_in q0 rfl rfl rfl)
  rw [if_neg q0]
  by_cases q1 : x4 = 1
  · rw [if_pos q1]
    exact r_table 84 (show decode (zb m_Work_readStep) 37 = .ok (.tableswitch (168) (0) (7) #[(47), (47), (70), (47), (168), (113), (168), (156)], 47) from by decide +kernel) (tb_in q1 rfl rfl rfl)
  rw [if_neg q1]
  by_cases q2 : x4 = 2
  · rw [if_pos q2]
    exact r_table 107 (show decode (zb m_Work_readStep) 37 = .ok (.tableswitch (168) (0) (7) #[(47), (47), (70), (47), (168), (113), (168), (156)], 47) from by decide +kernel) (tb_in q2 rfl rfl rfl)
  rw [if_neg q2]
  by_cases q3 : x4 = 3
  · rw [if_pos q3]
    exact r_table 84 (show decode (zb m_Work_readStep) 37 = .ok (.tableswitch (168) (0) (7) #[(47), (47), (70), (47), (168), (113), (168), (156)], 47) from by decide +kernel) (tb_in q3 rfl rfl rfl)
  rw [if_neg q3]
  by_cases q4 : x4 = 4
  · rw [if_pos q4]
    exact r_table 205 (show decode (zb m_Work_readStep) 37 = .ok (.tableswitch (168) (0) (7) #[(47), (47), (70), (47), (168), (113), (168), (156)], 47) from by decide +kernel) (tb_in q4 rfl rfl rfl)
  rw [if_neg q4]
  by_cases q5 : x4 = 5
  · rw [if_pos q5]
    exact r_table 150 (show decode (zb m_Work_readStep) 37 = .ok (.tableswitch (168) (0) (7) #[(47), (47), (70), (47), (168), (113), (168), (156)], 47) from by decide +kernel) (tb_in q5 rfl rfl rfl)
  rw [if_neg q5]
  by_cases q6 : x4 = 6
  · rw [if_pos q6]
    exact r_table 205 (show decode (zb m_Work_readStep) 37 = .ok (.tableswitch (168) (0) (7) #[(47), (47), (70), (47), (168), (113), (168), (156)], 47) from by decide +kernel) (tb_in q6 rfl rfl rfl)
  rw [if_neg q6]
  by_cases q7 : x4 = 7
  · rw [if_pos q7]
    exact r_table 193 (show decode (zb m_Work_readStep) 37 = .ok (.tableswitch (168) (0) (7) #[(47), (47), (70), (47), (168), (113), (168), (156)], 47) from by decide +kernel) (tb_in q7 rfl rfl rfl)
  rw [if_neg q7]
  have e0 : (Int32.toInt x4) ≠ 0 := ne_toInt q0
  have e1 : (Int32.toInt x4) ≠ 1 := ne_toInt q1
  have e2 : (Int32.toInt x4) ≠ 2 := ne_toInt q2
  have e3 : (Int32.toInt x4) ≠ 3 := ne_toInt q3
  have e4 : (Int32.toInt x4) ≠ 4 := ne_toInt q4
  have e5 : (Int32.toInt x4) ≠ 5 := ne_toInt q5
  have e6 : (Int32.toInt x4) ≠ 6 := ne_toInt q6
  have e7 : (Int32.toInt x4) ≠ 7 := ne_toInt q7
  exact r_table 205 (show decode (zb m_Work_readStep) 37 = .ok (.tableswitch (168) (0) (7) #[(47), (47), (70), (47), (168), (113), (168), (156)], 47) from by decide +kernel) (tb_out (by omega) rfl)
theorem b_Work_readStep_84 {C : CF} {d : Nat} {σ : HP} {a0 : Nat} {x5 : Int32} {a1 : Nat} {a2 : Nat} {l3 : Option Value} {l4 : Option Value} (h1 : a0 % 64 = 10) (h2 : (gR σ a0 1).isSome = true) (h3 : a2 % 64 = 2) (h4 : a1 % 64 = 7) : runF C d m_Work_readStep (84, [some (.ref a0), some (.ref a1), some (.ref a2), l3, l4, some (.int x5)], [], σ) = bk C d m_Work_readStep 98 [some (.ref a0), some (.ref a1), some (.ref a2), l3, l4, some (.int x5)] [.int x5, .ref (dr (gR σ a0 1))] (C m_Reader_readNumber [.ref a1, .int ((0 : Int32)), .int ((gI σ a2 1) - (1 : Int32))] σ) := by
  refine (r_aloadn 0 (show decode (zb m_Work_readStep) 84 = .ok (.aload_n 0, 1) from by decide +kernel) rfl).trans ?_
  refine (r_getR (show decode (zb m_Work_readStep) 85 = .ok (.getfield 15, 3) from by decide +kernel) rfl rfl h1 h2).trans ?_
  refine (r_iload 5 (show decode (zb m_Work_readStep) 88 = .ok (.iload 5, 2) from by decide +kernel) rfl).trans ?_
  refine (r_aloadn 1 (show decode (zb m_Work_readStep) 90 = .ok (.aload_n 1, 1) from by decide +kernel) rfl).trans ?_
  refine (r_iconst (v := (0 : Int32)) (show decode (zb m_Work_readStep) 91 = .ok (.iconst (0), 1) from by decide +kernel) (by decide)).trans ?_
  refine (r_aloadn 2 (show decode (zb m_Work_readStep) 92 = .ok (.aload_n 2, 1) from by decide +kernel) rfl).trans ?_
  refine (r_getI (show decode (zb m_Work_readStep) 93 = .ok (.getfield 62, 3) from by decide +kernel) rfl rfl h3).trans ?_
  refine (r_iconst (v := (1 : Int32)) (show decode (zb m_Work_readStep) 96 = .ok (.iconst (1), 1) from by decide +kernel) (by decide)).trans ?_
  refine (r_isub (show decode (zb m_Work_readStep) 97 = .ok (.isub, 1) from by decide +kernel)).trans ?_
  exact r_virt (args := [.int ((0 : Int32)), .int ((gI σ a2 1) - (1 : Int32))]) (rest := [.int x5, .ref (dr (gR σ a0 1))]) (show decode (zb m_Work_readStep) 98 = .ok (.invokevirtual 67, 3) from by decide +kernel) rfl rfl rfl h4
theorem b_Work_readStep_101 {C : CF} {d : Nat} {σ : HP} {s0 : Int32} {s1 : Int32} {r2 : Nat} {l0 : Option Value} {l1 : Option Value} {l2 : Option Value} {l3 : Option Value} {l4 : Option Value} {l5 : Option Value}  : runF C d m_Work_readStep (101, [l0, l1, l2, l3, l4, l5], [.int s0, .int s1, .ref r2], σ) = bkN C d m_Work_readStep 101 [l0, l1, l2, l3, l4, l5] [] (C m_PL_put [.ref r2, .int s1, .int s0] σ) := by
  exact r_stat (args := [.ref r2, .int s1, .int s0]) (rest := []) (show decode (zb m_Work_readStep) 101 = .ok (.invokestatic 58, 3) from by decide +kernel) rfl (by decide) rfl rfl
theorem b_Work_readStep_104 {C : CF} {d : Nat} {σ : HP} {l0 : Option Value} {l1 : Option Value} {l2 : Option Value} {l3 : Option Value} {l4 : Option Value} {l5 : Option Value}  : runF C d m_Work_readStep (104, [l0, l1, l2, l3, l4, l5], [], σ) = runF C d m_Work_readStep (205, [l0, l1, l2, l3, l4, l5], [], σ) := by
  exact r_goto 205 (show decode (zb m_Work_readStep) 104 = .ok (.goto (101), 3) from by decide +kernel) rfl
theorem b_Work_readStep_107 {C : CF} {d : Nat} {σ : HP} {a0 : Nat} {x5 : Int32} {a1 : Nat} {a2 : Nat} {l3 : Option Value} {l4 : Option Value} (h1 : a0 % 64 = 10) (h2 : (gR σ a0 1).isSome = true) (h3 : a2 % 64 = 2) (h4 : a1 % 64 = 7) : runF C d m_Work_readStep (107, [some (.ref a0), some (.ref a1), some (.ref a2), l3, l4, some (.int x5)], [], σ) = bk C d m_Work_readStep 121 [some (.ref a0), some (.ref a1), some (.ref a2), l3, l4, some (.int x5)] [.int x5, .ref (dr (gR σ a0 1))] (C m_Reader_readNumber [.ref a1, .int ((0 : Int32)), .int ((gI σ a2 1) - (1 : Int32))] σ) := by
  refine (r_aloadn 0 (show decode (zb m_Work_readStep) 107 = .ok (.aload_n 0, 1) from by decide +kernel) rfl).trans ?_
  refine (r_getR (show decode (zb m_Work_readStep) 108 = .ok (.getfield 15, 3) from by decide +kernel) rfl rfl h1 h2).trans ?_
  refine (r_iload 5 (show decode (zb m_Work_readStep) 111 = .ok (.iload 5, 2) from by decide +kernel) rfl).trans ?_
  refine (r_aloadn 1 (show decode (zb m_Work_readStep) 113 = .ok (.aload_n 1, 1) from by decide +kernel) rfl).trans ?_
  refine (r_iconst (v := (0 : Int32)) (show decode (zb m_Work_readStep) 114 = .ok (.iconst (0), 1) from by decide +kernel) (by decide)).trans ?_
  refine (r_aloadn 2 (show decode (zb m_Work_readStep) 115 = .ok (.aload_n 2, 1) from by decide +kernel) rfl).trans ?_
  refine (r_getI (show decode (zb m_Work_readStep) 116 = .ok (.getfield 62, 3) from by decide +kernel) rfl rfl h3).trans ?_
  refine (r_iconst (v := (1 : Int32)) (show decode (zb m_Work_readStep) 119 = .ok (.iconst (1), 1) from by decide +kernel) (by decide)).trans ?_
  refine (r_isub (show decode (zb m_Work_readStep) 120 = .ok (.isub, 1) from by decide +kernel)).trans ?_
  exact r_virt (args := [.int ((0 : Int32)), .int ((gI σ a2 1) - (1 : Int32))]) (rest := [.int x5, .ref (dr (gR σ a0 1))]) (show decode (zb m_Work_readStep) 121 = .ok (.invokevirtual 67, 3) from by decide +kernel) rfl rfl rfl h4
theorem b_Work_readStep_124 {C : CF} {d : Nat} {σ : HP} {s0 : Int32} {s1 : Int32} {r2 : Nat} {l0 : Option Value} {l1 : Option Value} {l2 : Option Value} {l3 : Option Value} {l4 : Option Value} {l5 : Option Value}  : runF C d m_Work_readStep (124, [l0, l1, l2, l3, l4, l5], [.int s0, .int s1, .ref r2], σ) = bkN C d m_Work_readStep 124 [l0, l1, l2, l3, l4, l5] [] (C m_PL_put [.ref r2, .int s1, .int s0] σ) := by
  exact r_stat (args := [.ref r2, .int s1, .int s0]) (rest := []) (show decode (zb m_Work_readStep) 124 = .ok (.invokestatic 58, 3) from by decide +kernel) rfl (by decide) rfl rfl
theorem b_Work_readStep_127 {C : CF} {d : Nat} {σ : HP} {a0 : Nat} {x5 : Int32} {a1 : Nat} {a2 : Nat} {l3 : Option Value} {l4 : Option Value} (h1 : a0 % 64 = 10) (h2 : (gR σ a0 2).isSome = true) (h3 : a2 % 64 = 2) (h4 : a1 % 64 = 7) : runF C d m_Work_readStep (127, [some (.ref a0), some (.ref a1), some (.ref a2), l3, l4, some (.int x5)], [], σ) = bk C d m_Work_readStep 141 [some (.ref a0), some (.ref a1), some (.ref a2), l3, l4, some (.int x5)] [.int x5, .ref (dr (gR σ a0 2))] (C m_Reader_readNumber [.ref a1, .int ((0 : Int32)), .int ((gI σ a2 2) - (1 : Int32))] σ) := by
  refine (r_aloadn 0 (show decode (zb m_Work_readStep) 127 = .ok (.aload_n 0, 1) from by decide +kernel) rfl).trans ?_
  refine (r_getR (show decode (zb m_Work_readStep) 128 = .ok (.getfield 18, 3) from by decide +kernel) rfl rfl h1 h2).trans ?_
  refine (r_iload 5 (show decode (zb m_Work_readStep) 131 = .ok (.iload 5, 2) from by decide +kernel) rfl).trans ?_
  refine (r_aloadn 1 (show decode (zb m_Work_readStep) 133 = .ok (.aload_n 1, 1) from by decide +kernel) rfl).trans ?_
  refine (r_iconst (v := (0 : Int32)) (show decode (zb m_Work_readStep) 134 = .ok (.iconst (0), 1) from by decide +kernel) (by decide)).trans ?_
  refine (r_aloadn 2 (show decode (zb m_Work_readStep) 135 = .ok (.aload_n 2, 1) from by decide +kernel) rfl).trans ?_
  refine (r_getI (show decode (zb m_Work_readStep) 136 = .ok (.getfield 71, 3) from by decide +kernel) rfl rfl h3).trans ?_
  refine (r_iconst (v := (1 : Int32)) (show decode (zb m_Work_readStep) 139 = .ok (.iconst (1), 1) from by decide +kernel) (by decide)).trans ?_
  refine (r_isub (show decode (zb m_Work_readStep) 140 = .ok (.isub, 1) from by decide +kernel)).trans ?_
  exact r_virt (args := [.int ((0 : Int32)), .int ((gI σ a2 2) - (1 : Int32))]) (rest := [.int x5, .ref (dr (gR σ a0 2))]) (show decode (zb m_Work_readStep) 141 = .ok (.invokevirtual 67, 3) from by decide +kernel) rfl rfl rfl h4
theorem b_Work_readStep_144 {C : CF} {d : Nat} {σ : HP} {s0 : Int32} {s1 : Int32} {r2 : Nat} {l0 : Option Value} {l1 : Option Value} {l2 : Option Value} {l3 : Option Value} {l4 : Option Value} {l5 : Option Value}  : runF C d m_Work_readStep (144, [l0, l1, l2, l3, l4, l5], [.int s0, .int s1, .ref r2], σ) = bkN C d m_Work_readStep 144 [l0, l1, l2, l3, l4, l5] [] (C m_PL_put [.ref r2, .int s1, .int s0] σ) := by
  exact r_stat (args := [.ref r2, .int s1, .int s0]) (rest := []) (show decode (zb m_Work_readStep) 144 = .ok (.invokestatic 58, 3) from by decide +kernel) rfl (by decide) rfl rfl
theorem b_Work_readStep_147 {C : CF} {d : Nat} {σ : HP} {l0 : Option Value} {l1 : Option Value} {l2 : Option Value} {l3 : Option Value} {l4 : Option Value} {l5 : Option Value}  : runF C d m_Work_readStep (147, [l0, l1, l2, l3, l4, l5], [], σ) = runF C d m_Work_readStep (205, [l0, l1, l2, l3, l4, l5], [], σ) := by
  exact r_goto 205 (show decode (zb m_Work_readStep) 147 = .ok (.goto (58), 3) from by decide +kernel) rfl
theorem b_Work_readStep_150 {C : CF} {d : Nat} {σ : HP} {a0 : Nat} {x5 : Int32} {a1 : Nat} {a2 : Nat} {l3 : Option Value} {l4 : Option Value} (h1 : a0 % 64 = 10) (h2 : (gR σ a0 1).isSome = true) (h3 : a2 % 64 = 2) (h4 : a1 % 64 = 7) : runF C d m_Work_readStep (150, [some (.ref a0), some (.ref a1), some (.ref a2), l3, l4, some (.int x5)], [], σ) = bk C d m_Work_readStep 164 [some (.ref a0), some (.ref a1), some (.ref a2), l3, l4, some (.int x5)] [.int x5, .ref (dr (gR σ a0 1))] (C m_Reader_readNumber [.ref a1, .int ((0 : Int32)), .int ((gI σ a2 1) - (1 : Int32))] σ) := by
  refine (r_aloadn 0 (show decode (zb m_Work_readStep) 150 = .ok (.aload_n 0, 1) from by decide +kernel) rfl).trans ?_
  refine (r_getR (show decode (zb m_Work_readStep) 151 = .ok (.getfield 15, 3) from by decide +kernel) rfl rfl h1 h2).trans ?_
  refine (r_iload 5 (show decode (zb m_Work_readStep) 154 = .ok (.iload 5, 2) from by decide +kernel) rfl).trans ?_
  refine (r_aloadn 1 (show decode (zb m_Work_readStep) 156 = .ok (.aload_n 1, 1) from by decide +kernel) rfl).trans ?_
  refine (r_iconst (v := (0 : Int32)) (show decode (zb m_Work_readStep) 157 = .ok (.iconst (0), 1) from by decide +kernel) (by decide)).trans ?_
  refine (r_aloadn 2 (show decode (zb m_Work_readStep) 158 = .ok (.aload_n 2, 1) from by decide +kernel) rfl).trans ?_
  refine (r_getI (show decode (zb m_Work_readStep) 159 = .ok (.getfield 62, 3) from by decide +kernel) rfl rfl h3).trans ?_
  refine (r_iconst (v := (1 : Int32)) (show decode (zb m_Work_readStep) 162 = .ok (.iconst (1), 1) from by decide +kernel) (by decide)).trans ?_
  refine (r_isub (show decode (zb m_Work_readStep) 163 = .ok (.isub, 1) from by decide +kernel)).trans ?_
  exact r_virt (args := [.int ((0 : Int32)), .int ((gI σ a2 1) - (1 : Int32))]) (rest := [.int x5, .ref (dr (gR σ a0 1))]) (show decode (zb m_Work_readStep) 164 = .ok (.invokevirtual 67, 3) from by decide +kernel) rfl rfl rfl h4
theorem b_Work_readStep_167 {C : CF} {d : Nat} {σ : HP} {s0 : Int32} {s1 : Int32} {r2 : Nat} {l0 : Option Value} {l1 : Option Value} {l2 : Option Value} {l3 : Option Value} {l4 : Option Value} {l5 : Option Value}  : runF C d m_Work_readStep (167, [l0, l1, l2, l3, l4, l5], [.int s0, .int s1, .ref r2], σ) = bkN C d m_Work_readStep 167 [l0, l1, l2, l3, l4, l5] [] (C m_PL_put [.ref r2, .int s1, .int s0] σ) := by
  exact r_stat (args := [.ref r2, .int s1, .int s0]) (rest := []) (show decode (zb m_Work_readStep) 167 = .ok (.invokestatic 58, 3) from by decide +kernel) rfl (by decide) rfl rfl
theorem b_Work_readStep_170 {C : CF} {d : Nat} {σ : HP} {a0 : Nat} {x5 : Int32} {a1 : Nat} {a2 : Nat} {l3 : Option Value} {l4 : Option Value} (h1 : a0 % 64 = 10) (h2 : (gR σ a0 2).isSome = true) (h3 : a2 % 64 = 2) (h4 : a1 % 64 = 7) : runF C d m_Work_readStep (170, [some (.ref a0), some (.ref a1), some (.ref a2), l3, l4, some (.int x5)], [], σ) = bk C d m_Work_readStep 184 [some (.ref a0), some (.ref a1), some (.ref a2), l3, l4, some (.int x5)] [.int x5, .ref (dr (gR σ a0 2))] (C m_Reader_readNumber [.ref a1, .int ((0 : Int32)), .int ((gI σ a2 0) - (1 : Int32))] σ) := by
  refine (r_aloadn 0 (show decode (zb m_Work_readStep) 170 = .ok (.aload_n 0, 1) from by decide +kernel) rfl).trans ?_
  refine (r_getR (show decode (zb m_Work_readStep) 171 = .ok (.getfield 18, 3) from by decide +kernel) rfl rfl h1 h2).trans ?_
  refine (r_iload 5 (show decode (zb m_Work_readStep) 174 = .ok (.iload 5, 2) from by decide +kernel) rfl).trans ?_
  refine (r_aloadn 1 (show decode (zb m_Work_readStep) 176 = .ok (.aload_n 1, 1) from by decide +kernel) rfl).trans ?_
  refine (r_iconst (v := (0 : Int32)) (show decode (zb m_Work_readStep) 177 = .ok (.iconst (0), 1) from by decide +kernel) (by decide)).trans ?_
  refine (r_aloadn 2 (show decode (zb m_Work_readStep) 178 = .ok (.aload_n 2, 1) from by decide +kernel) rfl).trans ?_
  refine (r_getI (show decode (zb m_Work_readStep) 179 = .ok (.getfield 74, 3) from by decide +kernel) rfl rfl h3).trans ?_
  refine (r_iconst (v := (1 : Int32)) (show decode (zb m_Work_readStep) 182 = .ok (.iconst (1), 1) from by decide +kernel) (by decide)).trans ?_
  refine (r_isub (show decode (zb m_Work_readStep) 183 = .ok (.isub, 1) from by decide +kernel)).trans ?_
  exact r_virt (args := [.int ((0 : Int32)), .int ((gI σ a2 0) - (1 : Int32))]) (rest := [.int x5, .ref (dr (gR σ a0 2))]) (show decode (zb m_Work_readStep) 184 = .ok (.invokevirtual 67, 3) from by decide +kernel) rfl rfl rfl h4
theorem b_Work_readStep_187 {C : CF} {d : Nat} {σ : HP} {s0 : Int32} {s1 : Int32} {r2 : Nat} {l0 : Option Value} {l1 : Option Value} {l2 : Option Value} {l3 : Option Value} {l4 : Option Value} {l5 : Option Value}  : runF C d m_Work_readStep (187, [l0, l1, l2, l3, l4, l5], [.int s0, .int s1, .ref r2], σ) = bkN C d m_Work_readStep 187 [l0, l1, l2, l3, l4, l5] [] (C m_PL_put [.ref r2, .int s1, .int s0] σ) := by
  exact r_stat (args := [.ref r2, .int s1, .int s0]) (rest := []) (show decode (zb m_Work_readStep) 187 = .ok (.invokestatic 58, 3) from by decide +kernel) rfl (by decide) rfl rfl
theorem b_Work_readStep_190 {C : CF} {d : Nat} {σ : HP} {l0 : Option Value} {l1 : Option Value} {l2 : Option Value} {l3 : Option Value} {l4 : Option Value} {l5 : Option Value}  : runF C d m_Work_readStep (190, [l0, l1, l2, l3, l4, l5], [], σ) = runF C d m_Work_readStep (205, [l0, l1, l2, l3, l4, l5], [], σ) := by
  exact r_goto 205 (show decode (zb m_Work_readStep) 190 = .ok (.goto (15), 3) from by decide +kernel) rfl
theorem b_Work_readStep_193 {C : CF} {d : Nat} {σ : HP} {a0 : Nat} {a1 : Nat} {a2 : Nat} {x3 : Int32} {x5 : Int32} {l4 : Option Value} (h1 : a0 % 64 = 10) : runF C d m_Work_readStep (193, [some (.ref a0), some (.ref a1), some (.ref a2), some (.int x3), l4, some (.int x5)], [], σ) = bk C d m_Work_readStep 199 [some (.ref a0), some (.ref a1), some (.ref a2), some (.int x3), l4, some (.int x5)] [] (C m_Work_readAgain [.ref a0, .ref a1, .ref a2, .int x3, .int x5] σ) := by
  refine (r_aloadn 0 (show decode (zb m_Work_readStep) 193 = .ok (.aload_n 0, 1) from by decide +kernel) rfl).trans ?_
  refine (r_aloadn 1 (show decode (zb m_Work_readStep) 194 = .ok (.aload_n 1, 1) from by decide +kernel) rfl).trans ?_
  refine (r_aloadn 2 (show decode (zb m_Work_readStep) 195 = .ok (.aload_n 2, 1) from by decide +kernel) rfl).trans ?_
  refine (r_iloadn 3 (show decode (zb m_Work_readStep) 196 = .ok (.iload_n 3, 1) from by decide +kernel) rfl).trans ?_
  refine (r_iload 5 (show decode (zb m_Work_readStep) 197 = .ok (.iload 5, 2) from by decide +kernel) rfl).trans ?_
  exact r_virt (args := [.ref a1, .ref a2, .int x3, .int x5]) (rest := []) (show decode (zb m_Work_readStep) 199 = .ok (.invokevirtual 77, 3) from by decide +kernel) rfl rfl rfl h1
theorem b_Work_readStep_202 {C : CF} {d : Nat} {σ : HP} {l0 : Option Value} {l1 : Option Value} {l2 : Option Value} {l3 : Option Value} {l4 : Option Value} {l5 : Option Value}  : runF C d m_Work_readStep (202, [l0, l1, l2, l3, l4, l5], [], σ) = runF C d m_Work_readStep (205, [l0, l1, l2, l3, l4, l5], [], σ) := by
  exact r_goto 205 (show decode (zb m_Work_readStep) 202 = .ok (.goto (3), 3) from by decide +kernel) rfl
theorem b_Work_readStep_205 {C : CF} {d : Nat} {σ : HP} {l0 : Option Value} {l1 : Option Value} {l2 : Option Value} {l3 : Option Value} {l4 : Option Value} {l5 : Option Value}  : runF C d m_Work_readStep (205, [l0, l1, l2, l3, l4, l5], [], σ) = some (.inl none, σ) := by
  exact r_vret (show decode (zb m_Work_readStep) 205 = .ok (.return_, 1) from by decide +kernel) rfl
theorem e_Work_readAgain {d : Nat} {σ : HP} {a0 : Nat} {a1 : Nat} {a2 : Nat} {x3 : Int32} {x4 : Int32} : callF (d + 1) m_Work_readAgain [.ref a0, .ref a1, .ref a2, .int x3, .int x4] σ = runF (callF d) d m_Work_readAgain (0, [some (.ref a0), some (.ref a1), some (.ref a2), some (.int x3), some (.int x4)], [], σ) := callF_in rfl rfl
theorem b_Work_readAgain_0 {C : CF} {d : Nat} {σ : HP} {x3 : Int32} {l0 : Option Value} {l1 : Option Value} {l2 : Option Value} {l4 : Option Value}  : runF C d m_Work_readAgain (0, [l0, l1, l2, some (.int x3), l4], [], σ) = if x3 < (6 : Int32) then runF C d m_Work_readAgain (16, [l0, l1, l2, some (.int x3), l4], [], σ) else runF C d m_Work_readAgain (6, [l0, l1, l2, some (.int x3), l4], [], σ) := by
  refine (r_iloadn 3 (show decode (zb m_Work_readAgain) 0 = .ok (.iload_n 3, 1) from by decide +kernel) rfl).trans ?_
  refine (r_bipush (v := (6 : Int32)) (show decode (zb m_Work_readAgain) 1 = .ok (.bipush (6), 2) from by decide +kernel) (by decide)).trans ?_
  exact r_icmp_lt 16 (show decode (zb m_Work_readAgain) 3 = .ok (.if_icmp .lt (13), 3) from by decide +kernel) rfl
theorem b_Work_readAgain_6 {C : CF} {d : Nat} {σ : HP} {a1 : Nat} {l0 : Option Value} {l2 : Option Value} {l3 : Option Value} {l4 : Option Value} (h1 : a1 % 64 = 7) : runF C d m_Work_readAgain (6, [l0, some (.ref a1), l2, l3, l4], [], σ) = bk C d m_Work_readAgain 12 [l0, some (.ref a1), l2, l3, l4] [] (C m_Reader_blame [.ref a1, .int ((3 : Int32)), .int (gI σ a1 5)] σ) := by
  refine (r_aloadn 1 (show decode (zb m_Work_readAgain) 6 = .ok (.aload_n 1, 1) from by decide +kernel) rfl).trans ?_
  refine (r_iconst (v := (3 : Int32)) (show decode (zb m_Work_readAgain) 7 = .ok (.iconst (3), 1) from by decide +kernel) (by decide)).trans ?_
  refine (r_aloadn 1 (show decode (zb m_Work_readAgain) 8 = .ok (.aload_n 1, 1) from by decide +kernel) rfl).trans ?_
  refine (r_getI (show decode (zb m_Work_readAgain) 9 = .ok (.getfield 81, 3) from by decide +kernel) rfl rfl h1).trans ?_
  exact r_virt (args := [.int ((3 : Int32)), .int (gI σ a1 5)]) (rest := []) (show decode (zb m_Work_readAgain) 12 = .ok (.invokevirtual 84, 3) from by decide +kernel) rfl rfl rfl h1
theorem b_Work_readAgain_15 {C : CF} {d : Nat} {σ : HP} {l0 : Option Value} {l1 : Option Value} {l2 : Option Value} {l3 : Option Value} {l4 : Option Value}  : runF C d m_Work_readAgain (15, [l0, l1, l2, l3, l4], [], σ) = some (.inl none, σ) := by
  exact r_vret (show decode (zb m_Work_readAgain) 15 = .ok (.return_, 1) from by decide +kernel) rfl
theorem b_Work_readAgain_16 {C : CF} {d : Nat} {σ : HP} {a0 : Nat} {x4 : Int32} {a1 : Nat} {l2 : Option Value} {l3 : Option Value} (h1 : a0 % 64 = 10) (h2 : (gR σ a0 1).isSome = true) (h3 : a1 % 64 = 7) : runF C d m_Work_readAgain (16, [some (.ref a0), some (.ref a1), l2, l3, some (.int x4)], [], σ) = bk C d m_Work_readAgain 26 [some (.ref a0), some (.ref a1), l2, l3, some (.int x4)] [.int x4, .ref (dr (gR σ a0 1))] (C m_Reader_readNumber [.ref a1, .int ((0 : Int32)), .int ((30 : Int32))] σ) := by
  refine (r_aloadn 0 (show decode (zb m_Work_readAgain) 16 = .ok (.aload_n 0, 1) from by decide +kernel) rfl).trans ?_
  refine (r_getR (show decode (zb m_Work_readAgain) 17 = .ok (.getfield 15, 3) from by decide +kernel) rfl rfl h1 h2).trans ?_
  refine (r_iload 4 (show decode (zb m_Work_readAgain) 20 = .ok (.iload 4, 2) from by decide +kernel) rfl).trans ?_
  refine (r_aloadn 1 (show decode (zb m_Work_readAgain) 22 = .ok (.aload_n 1, 1) from by decide +kernel) rfl).trans ?_
  refine (r_iconst (v := (0 : Int32)) (show decode (zb m_Work_readAgain) 23 = .ok (.iconst (0), 1) from by decide +kernel) (by decide)).trans ?_
  refine (r_bipush (v := (30 : Int32)) (show decode (zb m_Work_readAgain) 24 = .ok (.bipush (30), 2) from by decide +kernel) (by decide)).trans ?_
  exact r_virt (args := [.int ((0 : Int32)), .int ((30 : Int32))]) (rest := [.int x4, .ref (dr (gR σ a0 1))]) (show decode (zb m_Work_readAgain) 26 = .ok (.invokevirtual 67, 3) from by decide +kernel) rfl rfl rfl h3
theorem b_Work_readAgain_29 {C : CF} {d : Nat} {σ : HP} {s0 : Int32} {s1 : Int32} {r2 : Nat} {l0 : Option Value} {l1 : Option Value} {l2 : Option Value} {l3 : Option Value} {l4 : Option Value}  : runF C d m_Work_readAgain (29, [l0, l1, l2, l3, l4], [.int s0, .int s1, .ref r2], σ) = bkN C d m_Work_readAgain 29 [l0, l1, l2, l3, l4] [] (C m_PL_put [.ref r2, .int s1, .int s0] σ) := by
  exact r_stat (args := [.ref r2, .int s1, .int s0]) (rest := []) (show decode (zb m_Work_readAgain) 29 = .ok (.invokestatic 58, 3) from by decide +kernel) rfl (by decide) rfl rfl
theorem b_Work_readAgain_32 {C : CF} {d : Nat} {σ : HP} {a1 : Nat} {l0 : Option Value} {l2 : Option Value} {l3 : Option Value} {l4 : Option Value} (h1 : a1 % 64 = 7) : runF C d m_Work_readAgain (32, [l0, some (.ref a1), l2, l3, l4], [], σ) = bk C d m_Work_readAgain 35 [l0, some (.ref a1), l2, l3, l4] [] (C m_Reader_needSign [.ref a1, .int ((91 : Int32))] σ) := by
  refine (r_aloadn 1 (show decode (zb m_Work_readAgain) 32 = .ok (.aload_n 1, 1) from by decide +kernel) rfl).trans ?_
  refine (r_bipush (v := (91 : Int32)) (show decode (zb m_Work_readAgain) 33 = .ok (.bipush (91), 2) from by decide +kernel) (by decide)).trans ?_
  exact r_virt (args := [.int ((91 : Int32))]) (rest := []) (show decode (zb m_Work_readAgain) 35 = .ok (.invokevirtual 48, 3) from by decide +kernel) rfl rfl rfl h1
theorem b_Work_readAgain_38 {C : CF} {d : Nat} {σ : HP} {a0 : Nat} {a1 : Nat} {a2 : Nat} {x3 : Int32} {l4 : Option Value} (h1 : a0 % 64 = 10) : runF C d m_Work_readAgain (38, [some (.ref a0), some (.ref a1), some (.ref a2), some (.int x3), l4], [], σ) = bk C d m_Work_readAgain 44 [some (.ref a0), some (.ref a1), some (.ref a2), some (.int x3), l4] [] (C m_Work_readSteps [.ref a0, .ref a1, .ref a2, .int (x3 + (1 : Int32))] σ) := by
  refine (r_aloadn 0 (show decode (zb m_Work_readAgain) 38 = .ok (.aload_n 0, 1) from by decide +kernel) rfl).trans ?_
  refine (r_aloadn 1 (show decode (zb m_Work_readAgain) 39 = .ok (.aload_n 1, 1) from by decide +kernel) rfl).trans ?_
  refine (r_aloadn 2 (show decode (zb m_Work_readAgain) 40 = .ok (.aload_n 2, 1) from by decide +kernel) rfl).trans ?_
  refine (r_iloadn 3 (show decode (zb m_Work_readAgain) 41 = .ok (.iload_n 3, 1) from by decide +kernel) rfl).trans ?_
  refine (r_iconst (v := (1 : Int32)) (show decode (zb m_Work_readAgain) 42 = .ok (.iconst (1), 1) from by decide +kernel) (by decide)).trans ?_
  refine (r_iadd (show decode (zb m_Work_readAgain) 43 = .ok (.iadd, 1) from by decide +kernel)).trans ?_
  exact r_virt (args := [.ref a1, .ref a2, .int (x3 + (1 : Int32))]) (rest := []) (show decode (zb m_Work_readAgain) 44 = .ok (.invokevirtual 88, 3) from by decide +kernel) rfl rfl rfl h1
theorem b_Work_readAgain_47 {C : CF} {d : Nat} {σ : HP} {a1 : Nat} {l0 : Option Value} {l2 : Option Value} {l3 : Option Value} {l4 : Option Value} (h1 : a1 % 64 = 7) : runF C d m_Work_readAgain (47, [l0, some (.ref a1), l2, l3, l4], [], σ) = bk C d m_Work_readAgain 50 [l0, some (.ref a1), l2, l3, l4] [] (C m_Reader_needSign [.ref a1, .int ((93 : Int32))] σ) := by
  refine (r_aloadn 1 (show decode (zb m_Work_readAgain) 47 = .ok (.aload_n 1, 1) from by decide +kernel) rfl).trans ?_
  refine (r_bipush (v := (93 : Int32)) (show decode (zb m_Work_readAgain) 48 = .ok (.bipush (93), 2) from by decide +kernel) (by decide)).trans ?_
  exact r_virt (args := [.int ((93 : Int32))]) (rest := []) (show decode (zb m_Work_readAgain) 50 = .ok (.invokevirtual 48, 3) from by decide +kernel) rfl rfl rfl h1
theorem b_Work_readAgain_53 {C : CF} {d : Nat} {σ : HP} {a0 : Nat} {x4 : Int32} {l1 : Option Value} {l2 : Option Value} {l3 : Option Value} (h1 : a0 % 64 = 10) (h2 : (gR σ a0 2).isSome = true) : runF C d m_Work_readAgain (53, [some (.ref a0), l1, l2, l3, some (.int x4)], [], σ) = bkN C d m_Work_readAgain 63 [some (.ref a0), l1, l2, l3, some (.int x4)] [] (C m_PL_put [.ref (dr (gR σ a0 2)), .int x4, .int (gI σ a0 3)] σ) := by
  refine (r_aloadn 0 (show decode (zb m_Work_readAgain) 53 = .ok (.aload_n 0, 1) from by decide +kernel) rfl).trans ?_
  refine (r_getR (show decode (zb m_Work_readAgain) 54 = .ok (.getfield 18, 3) from by decide +kernel) rfl rfl h1 h2).trans ?_
  refine (r_iload 4 (show decode (zb m_Work_readAgain) 57 = .ok (.iload 4, 2) from by decide +kernel) rfl).trans ?_
  refine (r_aloadn 0 (show decode (zb m_Work_readAgain) 59 = .ok (.aload_n 0, 1) from by decide +kernel) rfl).trans ?_
  refine (r_getI (show decode (zb m_Work_readAgain) 60 = .ok (.getfield 21, 3) from by decide +kernel) rfl rfl h1).trans ?_
  exact r_stat (args := [.ref (dr (gR σ a0 2)), .int x4, .int (gI σ a0 3)]) (rest := []) (show decode (zb m_Work_readAgain) 63 = .ok (.invokestatic 58, 3) from by decide +kernel) rfl (by decide) rfl rfl
theorem b_Work_readAgain_66 {C : CF} {d : Nat} {σ : HP} {l0 : Option Value} {l1 : Option Value} {l2 : Option Value} {l3 : Option Value} {l4 : Option Value}  : runF C d m_Work_readAgain (66, [l0, l1, l2, l3, l4], [], σ) = some (.inl none, σ) := by
  exact r_vret (show decode (zb m_Work_readAgain) 66 = .ok (.return_, 1) from by decide +kernel) rfl
theorem e_Work_doSteps {d : Nat} {σ : HP} {a0 : Nat} {a1 : Nat} {x2 : Int32} {x3 : Int32} {x4 : Int32} : callF (d + 1) m_Work_doSteps [.ref a0, .ref a1, .int x2, .int x3, .int x4] σ = runF (callF d) d m_Work_doSteps (0, [some (.ref a0), some (.ref a1), some (.int x2), some (.int x3), some (.int x4), none], [], σ) := callF_in rfl rfl
theorem b_Work_doSteps_0 {C : CF} {d : Nat} {σ : HP} {x2 : Int32} {l0 : Option Value} {l1 : Option Value} {l3 : Option Value} {l4 : Option Value} {l5 : Option Value}  : runF C d m_Work_doSteps (0, [l0, l1, some (.int x2), l3, l4, l5], [], σ) = runF C d m_Work_doSteps (3, [l0, l1, some (.int x2), l3, l4, some (.int x2)], [], σ) := by
  refine (r_iloadn 2 (show decode (zb m_Work_doSteps) 0 = .ok (.iload_n 2, 1) from by decide +kernel) rfl).trans ?_
  exact r_istore 5 (show decode (zb m_Work_doSteps) 1 = .ok (.istore 5, 2) from by decide +kernel) rfl
theorem b_Work_doSteps_3 {C : CF} {d : Nat} {σ : HP} {x5 : Int32} {x3 : Int32} {l0 : Option Value} {l1 : Option Value} {l2 : Option Value} {l4 : Option Value}  : runF C d m_Work_doSteps (3, [l0, l1, l2, some (.int x3), l4, some (.int x5)], [], σ) = if x3 ≤ x5 then runF C d m_Work_doSteps (123, [l0, l1, l2, some (.int x3), l4, some (.int x5)], [], σ) else runF C d m_Work_doSteps (9, [l0, l1, l2, some (.int x3), l4, some (.int x5)], [], σ) := by
  refine (r_iload 5 (show decode (zb m_Work_doSteps) 3 = .ok (.iload 5, 2) from by decide +kernel) rfl).trans ?_
  refine (r_iloadn 3 (show decode (zb m_Work_doSteps) 5 = .ok (.iload_n 3, 1) from by decide +kernel) rfl).trans ?_
  exact r_icmp_ge 123 (show decode (zb m_Work_doSteps) 6 = .ok (.if_icmp .ge (117), 3) from by decide +kernel) rfl
theorem b_Work_doSteps_9 {C : CF} {d : Nat} {σ : HP} {a0 : Nat} {l1 : Option Value} {l2 : Option Value} {l3 : Option Value} {l4 : Option Value} {l5 : Option Value} (h1 : a0 % 64 = 10) : runF C d m_Work_doSteps (9, [some (.ref a0), l1, l2, l3, l4, l5], [], σ) = if (200 : Int32) ≤ (gI σ a0 4) then runF C d m_Work_doSteps (123, [some (.ref a0), l1, l2, l3, l4, l5], [], σ) else runF C d m_Work_doSteps (19, [some (.ref a0), l1, l2, l3, l4, l5], [], σ) := by
  refine (r_aloadn 0 (show decode (zb m_Work_doSteps) 9 = .ok (.aload_n 0, 1) from by decide +kernel) rfl).trans ?_
  refine (r_getI (show decode (zb m_Work_doSteps) 10 = .ok (.getfield 25, 3) from by decide +kernel) rfl rfl h1).trans ?_
  refine (r_sipush (v := (200 : Int32)) (show decode (zb m_Work_doSteps) 13 = .ok (.sipush (200), 3) from by decide +kernel) (by decide)).trans ?_
  exact r_icmp_ge 123 (show decode (zb m_Work_doSteps) 16 = .ok (.if_icmp .ge (107), 3) from by decide +kernel) rfl
theorem b_Work_doSteps_19 {C : CF} {d : Nat} {σ : HP} {a0 : Nat} {x5 : Int32} {l1 : Option Value} {l2 : Option Value} {l3 : Option Value} {l4 : Option Value} (h1 : a0 % 64 = 10) (h2 : (gR (wI σ a0 4 ((gI σ a0 4) + (1 : Int32))) a0 0).isSome = true) : runF C d m_Work_doSteps (19, [some (.ref a0), l1, l2, l3, l4, some (.int x5)], [], σ) = bkN C d m_Work_doSteps 35 [some (.ref a0), l1, l2, l3, l4, some (.int x5)] [] (C m_PL_at [.ref (dr (gR (wI σ a0 4 ((gI σ a0 4) + (1 : Int32))) a0 0)), .int x5] (wI σ a0 4 ((gI σ a0 4) + (1 : Int32)))) := by
  refine (r_aloadn 0 (show decode (zb m_Work_doSteps) 19 = .ok (.aload_n 0, 1) from by decide +kernel) rfl).trans ?_
  refine (r_dupR (show decode (zb m_Work_doSteps) 20 = .ok (.dup, 1) from by decide +kernel)).trans ?_
  refine (r_getI (show decode (zb m_Work_doSteps) 21 = .ok (.getfield 25, 3) from by decide +kernel) rfl rfl h1).trans ?_
  refine (r_iconst (v := (1 : Int32)) (show decode (zb m_Work_doSteps) 24 = .ok (.iconst (1), 1) from by decide +kernel) (by decide)).trans ?_
  refine (r_iadd (show decode (zb m_Work_doSteps) 25 = .ok (.iadd, 1) from by decide +kernel)).trans ?_
  refine (r_putI (show decode (zb m_Work_doSteps) 26 = .ok (.putfield 25, 3) from by decide +kernel) rfl rfl rfl h1).trans ?_
  refine (r_aloadn 0 (show decode (zb m_Work_doSteps) 29 = .ok (.aload_n 0, 1) from by decide +kernel) rfl).trans ?_
  refine (r_getR (show decode (zb m_Work_doSteps) 30 = .ok (.getfield 9, 3) from by decide +kernel) rfl rfl h1 h2).trans ?_
  refine (r_iload 5 (show decode (zb m_Work_doSteps) 33 = .ok (.iload 5, 2) from by decide +kernel) rfl).trans ?_
  exact r_stat (args := [.ref (dr (gR (wI σ a0 4 ((gI σ a0 4) + (1 : Int32))) a0 0)), .int x5]) (rest := []) (show decode (zb m_Work_doSteps) 35 = .ok (.invokestatic 91, 3) from by decide +kernel) rfl (by decide) rfl rfl
theorem b_Work_doSteps_38 {C : CF} {d : Nat} {σ : HP} {s0 : Int32} {l0 : Option Value} {l1 : Option Value} {l2 : Option Value} {l3 : Option Value} {l4 : Option Value} {l5 : Option Value}  : runF C d m_Work_doSteps (38, [l0, l1, l2, l3, l4, l5], [.int s0], σ) = if ¬ s0 = (7 : Int32) then runF C d m_Work_doSteps (55, [l0, l1, l2, l3, l4, l5], [], σ) else runF C d m_Work_doSteps (43, [l0, l1, l2, l3, l4, l5], [], σ) := by
  refine (r_bipush (v := (7 : Int32)) (show decode (zb m_Work_doSteps) 38 = .ok (.bipush (7), 2) from by decide +kernel) (by decide)).trans ?_
  exact r_icmp_ne 55 (show decode (zb m_Work_doSteps) 40 = .ok (.if_icmp .ne (15), 3) from by decide +kernel) rfl
theorem b_Work_doSteps_43 {C : CF} {d : Nat} {σ : HP} {a0 : Nat} {a1 : Nat} {x5 : Int32} {x4 : Int32} {l2 : Option Value} {l3 : Option Value} (h1 : a0 % 64 = 10) : runF C d m_Work_doSteps (43, [some (.ref a0), some (.ref a1), l2, l3, some (.int x4), some (.int x5)], [], σ) = bk C d m_Work_doSteps 49 [some (.ref a0), some (.ref a1), l2, l3, some (.int x4), some (.int x5)] [] (C m_Work_doAgain [.ref a0, .ref a1, .int x5, .int x4] σ) := by
  refine (r_aloadn 0 (show decode (zb m_Work_doSteps) 43 = .ok (.aload_n 0, 1) from by decide +kernel) rfl).trans ?_
  refine (r_aloadn 1 (show decode (zb m_Work_doSteps) 44 = .ok (.aload_n 1, 1) from by decide +kernel) rfl).trans ?_
  refine (r_iload 5 (show decode (zb m_Work_doSteps) 45 = .ok (.iload 5, 2) from by decide +kernel) rfl).trans ?_
  refine (r_iload 4 (show decode (zb m_Work_doSteps) 47 = .ok (.iload 4, 2) from by decide +kernel) rfl).trans ?_
  exact r_virt (args := [.ref a1, .int x5, .int x4]) (rest := []) (show decode (zb m_Work_doSteps) 49 = .ok (.invokevirtual 95, 3) from by decide +kernel) rfl rfl rfl h1
theorem b_Work_doSteps_52 {C : CF} {d : Nat} {σ : HP} {l0 : Option Value} {l1 : Option Value} {l2 : Option Value} {l3 : Option Value} {l4 : Option Value} {l5 : Option Value}  : runF C d m_Work_doSteps (52, [l0, l1, l2, l3, l4, l5], [], σ) = runF C d m_Work_doSteps (112, [l0, l1, l2, l3, l4, l5], [], σ) := by
  exact r_goto 112 (show decode (zb m_Work_doSteps) 52 = .ok (.goto (60), 3) from by decide +kernel) rfl
theorem b_Work_doSteps_55 {C : CF} {d : Nat} {σ : HP} {a1 : Nat} {a0 : Nat} {x5 : Int32} {l2 : Option Value} {l3 : Option Value} {l4 : Option Value} (h1 : a0 % 64 = 10) (h2 : (gR σ a0 0).isSome = true) : runF C d m_Work_doSteps (55, [some (.ref a0), some (.ref a1), l2, l3, l4, some (.int x5)], [], σ) = bkN C d m_Work_doSteps 62 [some (.ref a0), some (.ref a1), l2, l3, l4, some (.int x5)] [.ref a1] (C m_PL_at [.ref (dr (gR σ a0 0)), .int x5] σ) := by
  refine (r_aloadn 1 (show decode (zb m_Work_doSteps) 55 = .ok (.aload_n 1, 1) from by decide +kernel) rfl).trans ?_
  refine (r_aloadn 0 (show decode (zb m_Work_doSteps) 56 = .ok (.aload_n 0, 1) from by decide +kernel) rfl).trans ?_
  refine (r_getR (show decode (zb m_Work_doSteps) 57 = .ok (.getfield 9, 3) from by decide +kernel) rfl rfl h1 h2).trans ?_
  refine (r_iload 5 (show decode (zb m_Work_doSteps) 60 = .ok (.iload 5, 2) from by decide +kernel) rfl).trans ?_
  exact r_stat (args := [.ref (dr (gR σ a0 0)), .int x5]) (rest := [.ref a1]) (show decode (zb m_Work_doSteps) 62 = .ok (.invokestatic 91, 3) from by decide +kernel) rfl (by decide) rfl rfl
theorem b_Work_doSteps_65 {C : CF} {d : Nat} {σ : HP} {s0 : Int32} {r1 : Nat} {a0 : Nat} {x5 : Int32} {l1 : Option Value} {l2 : Option Value} {l3 : Option Value} {l4 : Option Value} (h1 : a0 % 64 = 10) (h2 : (gR σ a0 1).isSome = true) : runF C d m_Work_doSteps (65, [some (.ref a0), l1, l2, l3, l4, some (.int x5)], [.int s0, .ref r1], σ) = bkN C d m_Work_doSteps 71 [some (.ref a0), l1, l2, l3, l4, some (.int x5)] [.int s0, .ref r1] (C m_PL_at [.ref (dr (gR σ a0 1)), .int x5] σ) := by
  refine (r_aloadn 0 (show decode (zb m_Work_doSteps) 65 = .ok (.aload_n 0, 1) from by decide +kernel) rfl).trans ?_
  refine (r_getR (show decode (zb m_Work_doSteps) 66 = .ok (.getfield 15, 3) from by decide +kernel) rfl rfl h1 h2).trans ?_
  refine (r_iload 5 (show decode (zb m_Work_doSteps) 69 = .ok (.iload 5, 2) from by decide +kernel) rfl).trans ?_
  exact r_stat (args := [.ref (dr (gR σ a0 1)), .int x5]) (rest := [.int s0, .ref r1]) (show decode (zb m_Work_doSteps) 71 = .ok (.invokestatic 91, 3) from by decide +kernel) rfl (by decide) rfl rfl
theorem b_Work_doSteps_74 {C : CF} {d : Nat} {σ : HP} {s0 : Int32} {s1 : Int32} {r2 : Nat} {a0 : Nat} {x5 : Int32} {l1 : Option Value} {l2 : Option Value} {l3 : Option Value} {l4 : Option Value} (h1 : a0 % 64 = 10) (h2 : (gR σ a0 2).isSome = true) : runF C d m_Work_doSteps (74, [some (.ref a0), l1, l2, l3, l4, some (.int x5)], [.int s0, .int s1, .ref r2], σ) = bkN C d m_Work_doSteps 80 [some (.ref a0), l1, l2, l3, l4, some (.int x5)] [.int s0, .int s1, .ref r2] (C m_PL_at [.ref (dr (gR σ a0 2)), .int x5] σ) := by
  refine (r_aloadn 0 (show decode (zb m_Work_doSteps) 74 = .ok (.aload_n 0, 1) from by decide +kernel) rfl).trans ?_
  refine (r_getR (show decode (zb m_Work_doSteps) 75 = .ok (.getfield 18, 3) from by decide +kernel) rfl rfl h1 h2).trans ?_
  refine (r_iload 5 (show decode (zb m_Work_doSteps) 78 = .ok (.iload 5, 2) from by decide +kernel) rfl).trans ?_
  exact r_stat (args := [.ref (dr (gR σ a0 2)), .int x5]) (rest := [.int s0, .int s1, .ref r2]) (show decode (zb m_Work_doSteps) 80 = .ok (.invokestatic 91, 3) from by decide +kernel) rfl (by decide) rfl rfl
theorem b_Work_doSteps_83 {C : CF} {d : Nat} {σ : HP} {s0 : Int32} {s1 : Int32} {s2 : Int32} {r3 : Nat} {l0 : Option Value} {l1 : Option Value} {l2 : Option Value} {l3 : Option Value} {l4 : Option Value} {l5 : Option Value}  : runF C d m_Work_doSteps (83, [l0, l1, l2, l3, l4, l5], [.int s0, .int s1, .int s2, .ref r3], σ) = bkN C d m_Work_doSteps 83 [l0, l1, l2, l3, l4, l5] [] (C m_Work_doStep [.ref r3, .int s2, .int s1, .int s0] σ) := by
  exact r_stat (args := [.ref r3, .int s2, .int s1, .int s0]) (rest := []) (show decode (zb m_Work_doSteps) 83 = .ok (.invokestatic 99, 3) from by decide +kernel) rfl (by decide) rfl rfl
theorem b_Work_doSteps_86 {C : CF} {d : Nat} {σ : HP} {s0 : Int32} {l0 : Option Value} {l1 : Option Value} {l2 : Option Value} {l3 : Option Value} {l4 : Option Value} {l5 : Option Value}  : runF C d m_Work_doSteps (86, [l0, l1, l2, l3, l4, l5], [.int s0], σ) = if s0 = 0 then runF C d m_Work_doSteps (102, [l0, l1, l2, l3, l4, l5], [], σ) else runF C d m_Work_doSteps (89, [l0, l1, l2, l3, l4, l5], [], σ) := by
  exact r_if_eq 102 (show decode (zb m_Work_doSteps) 86 = .ok (.ifCond .eq (16), 3) from by decide +kernel) rfl
theorem b_Work_doSteps_89 {C : CF} {d : Nat} {σ : HP} {a0 : Nat} {l1 : Option Value} {l2 : Option Value} {l3 : Option Value} {l4 : Option Value} {l5 : Option Value} (h1 : a0 % 64 = 10) : runF C d m_Work_doSteps (89, [some (.ref a0), l1, l2, l3, l4, l5], [], σ) = runF C d m_Work_doSteps (112, [some (.ref a0), l1, l2, l3, l4, l5], [], wI σ a0 5 ((gI σ a0 5) + (1 : Int32))) := by
  refine (r_aloadn 0 (show decode (zb m_Work_doSteps) 89 = .ok (.aload_n 0, 1) from by decide +kernel) rfl).trans ?_
  refine (r_dupR (show decode (zb m_Work_doSteps) 90 = .ok (.dup, 1) from by decide +kernel)).trans ?_
  refine (r_getI (show decode (zb m_Work_doSteps) 91 = .ok (.getfield 28, 3) from by decide +kernel) rfl rfl h1).trans ?_
  refine (r_iconst (v := (1 : Int32)) (show decode (zb m_Work_doSteps) 94 = .ok (.iconst (1), 1) from by decide +kernel) (by decide)).trans ?_
  refine (r_iadd (show decode (zb m_Work_doSteps) 95 = .ok (.iadd, 1) from by decide +kernel)).trans ?_
  refine (r_putI (show decode (zb m_Work_doSteps) 96 = .ok (.putfield 28, 3) from by decide +kernel) rfl rfl rfl h1).trans ?_
  exact r_goto 112 (show decode (zb m_Work_doSteps) 99 = .ok (.goto (13), 3) from by decide +kernel) rfl
theorem b_Work_doSteps_102 {C : CF} {d : Nat} {σ : HP} {a0 : Nat} {l1 : Option Value} {l2 : Option Value} {l3 : Option Value} {l4 : Option Value} {l5 : Option Value} (h1 : a0 % 64 = 10) : runF C d m_Work_doSteps (102, [some (.ref a0), l1, l2, l3, l4, l5], [], σ) = runF C d m_Work_doSteps (112, [some (.ref a0), l1, l2, l3, l4, l5], [], wI σ a0 6 ((gI σ a0 6) + (1 : Int32))) := by
  refine (r_aloadn 0 (show decode (zb m_Work_doSteps) 102 = .ok (.aload_n 0, 1) from by decide +kernel) rfl).trans ?_
  refine (r_dupR (show decode (zb m_Work_doSteps) 103 = .ok (.dup, 1) from by decide +kernel)).trans ?_
  refine (r_getI (show decode (zb m_Work_doSteps) 104 = .ok (.getfield 31, 3) from by decide +kernel) rfl rfl h1).trans ?_
  refine (r_iconst (v := (1 : Int32)) (show decode (zb m_Work_doSteps) 107 = .ok (.iconst (1), 1) from by decide +kernel) (by decide)).trans ?_
  refine (r_iadd (show decode (zb m_Work_doSteps) 108 = .ok (.iadd, 1) from by decide +kernel)).trans ?_
  exact r_putI (show decode (zb m_Work_doSteps) 109 = .ok (.putfield 31, 3) from by decide +kernel) rfl rfl rfl h1
theorem b_Work_doSteps_112 {C : CF} {d : Nat} {σ : HP} {a0 : Nat} {x5 : Int32} {l1 : Option Value} {l2 : Option Value} {l3 : Option Value} {l4 : Option Value} (h1 : a0 % 64 = 10) : runF C d m_Work_doSteps (112, [some (.ref a0), l1, l2, l3, l4, some (.int x5)], [], σ) = bk C d m_Work_doSteps 115 [some (.ref a0), l1, l2, l3, l4, some (.int x5)] [] (C m_Work_behind [.ref a0, .int x5] σ) := by
  refine (r_aloadn 0 (show decode (zb m_Work_doSteps) 112 = .ok (.aload_n 0, 1) from by decide +kernel) rfl).trans ?_
  refine (r_iload 5 (show decode (zb m_Work_doSteps) 113 = .ok (.iload 5, 2) from by decide +kernel) rfl).trans ?_
  exact r_virt (args := [.int x5]) (rest := []) (show decode (zb m_Work_doSteps) 115 = .ok (.invokevirtual 103, 3) from by decide +kernel) rfl rfl rfl h1
theorem b_Work_doSteps_118 {C : CF} {d : Nat} {σ : HP} {s0 : Int32} {l0 : Option Value} {l1 : Option Value} {l2 : Option Value} {l3 : Option Value} {l4 : Option Value} {l5 : Option Value}  : runF C d m_Work_doSteps (118, [l0, l1, l2, l3, l4, l5], [.int s0], σ) = runF C d m_Work_doSteps (3, [l0, l1, l2, l3, l4, some (.int s0)], [], σ) := by
  refine (r_istore 5 (show decode (zb m_Work_doSteps) 118 = .ok (.istore 5, 2) from by decide +kernel) rfl).trans ?_
  exact r_goto 3 (show decode (zb m_Work_doSteps) 120 = .ok (.goto (-117), 3) from by decide +kernel) rfl
theorem b_Work_doSteps_123 {C : CF} {d : Nat} {σ : HP} {l0 : Option Value} {l1 : Option Value} {l2 : Option Value} {l3 : Option Value} {l4 : Option Value} {l5 : Option Value}  : runF C d m_Work_doSteps (123, [l0, l1, l2, l3, l4, l5], [], σ) = some (.inl none, σ) := by
  exact r_vret (show decode (zb m_Work_doSteps) 123 = .ok (.return_, 1) from by decide +kernel) rfl
theorem e_Work_doAgain {d : Nat} {σ : HP} {a0 : Nat} {a1 : Nat} {x2 : Int32} {x3 : Int32} : callF (d + 1) m_Work_doAgain [.ref a0, .ref a1, .int x2, .int x3] σ = runF (callF d) d m_Work_doAgain (0, [some (.ref a0), some (.ref a1), some (.int x2), some (.int x3), none, none], [], σ) := callF_in rfl rfl
theorem b_Work_doAgain_0 {C : CF} {d : Nat} {σ : HP} {x3 : Int32} {l0 : Option Value} {l1 : Option Value} {l2 : Option Value} {l4 : Option Value} {l5 : Option Value}  : runF C d m_Work_doAgain (0, [l0, l1, l2, some (.int x3), l4, l5], [], σ) = if x3 < (6 : Int32) then runF C d m_Work_doAgain (7, [l0, l1, l2, some (.int x3), l4, l5], [], σ) else runF C d m_Work_doAgain (6, [l0, l1, l2, some (.int x3), l4, l5], [], σ) := by
  refine (r_iloadn 3 (show decode (zb m_Work_doAgain) 0 = .ok (.iload_n 3, 1) from by decide +kernel) rfl).trans ?_
  refine (r_bipush (v := (6 : Int32)) (show decode (zb m_Work_doAgain) 1 = .ok (.bipush (6), 2) from by decide +kernel) (by decide)).trans ?_
  exact r_icmp_lt 7 (show decode (zb m_Work_doAgain) 3 = .ok (.if_icmp .lt (4), 3) from by decide +kernel) rfl
theorem b_Work_doAgain_6 {C : CF} {d : Nat} {σ : HP} {l0 : Option Value} {l1 : Option Value} {l2 : Option Value} {l3 : Option Value} {l4 : Option Value} {l5 : Option Value}  : runF C d m_Work_doAgain (6, [l0, l1, l2, l3, l4, l5], [], σ) = some (.inl none, σ) := by
  exact r_vret (show decode (zb m_Work_doAgain) 6 = .ok (.return_, 1) from by decide +kernel) rfl
theorem b_Work_doAgain_7 {C : CF} {d : Nat} {σ : HP} {a0 : Nat} {x2 : Int32} {l1 : Option Value} {l3 : Option Value} {l4 : Option Value} {l5 : Option Value} (h1 : a0 % 64 = 10) (h2 : (gR σ a0 1).isSome = true) : runF C d m_Work_doAgain (7, [some (.ref a0), l1, some (.int x2), l3, l4, l5], [], σ) = bkN C d m_Work_doAgain 12 [some (.ref a0), l1, some (.int x2), l3, l4, l5] [] (C m_PL_at [.ref (dr (gR σ a0 1)), .int x2] σ) := by
  refine (r_aloadn 0 (show decode (zb m_Work_doAgain) 7 = .ok (.aload_n 0, 1) from by decide +kernel) rfl).trans ?_
  refine (r_getR (show decode (zb m_Work_doAgain) 8 = .ok (.getfield 15, 3) from by decide +kernel) rfl rfl h1 h2).trans ?_
  refine (r_iloadn 2 (show decode (zb m_Work_doAgain) 11 = .ok (.iload_n 2, 1) from by decide +kernel) rfl).trans ?_
  exact r_stat (args := [.ref (dr (gR σ a0 1)), .int x2]) (rest := []) (show decode (zb m_Work_doAgain) 12 = .ok (.invokestatic 91, 3) from by decide +kernel) rfl (by decide) rfl rfl
theorem b_Work_doAgain_15 {C : CF} {d : Nat} {σ : HP} {s0 : Int32} {l0 : Option Value} {l1 : Option Value} {l2 : Option Value} {l3 : Option Value} {l4 : Option Value} {l5 : Option Value}  : runF C d m_Work_doAgain (15, [l0, l1, l2, l3, l4, l5], [.int s0], σ) = runF C d m_Work_doAgain (20, [l0, l1, l2, l3, some (.int s0), some (.int ((0 : Int32)))], [], σ) := by
  refine (r_istore 4 (show decode (zb m_Work_doAgain) 15 = .ok (.istore 4, 2) from by decide +kernel) rfl).trans ?_
  refine (r_iconst (v := (0 : Int32)) (show decode (zb m_Work_doAgain) 17 = .ok (.iconst (0), 1) from by decide +kernel) (by decide)).trans ?_
  exact r_istore 5 (show decode (zb m_Work_doAgain) 18 = .ok (.istore 5, 2) from by decide +kernel) rfl
theorem b_Work_doAgain_20 {C : CF} {d : Nat} {σ : HP} {x5 : Int32} {x4 : Int32} {l0 : Option Value} {l1 : Option Value} {l2 : Option Value} {l3 : Option Value}  : runF C d m_Work_doAgain (20, [l0, l1, l2, l3, some (.int x4), some (.int x5)], [], σ) = if x4 ≤ x5 then runF C d m_Work_doAgain (62, [l0, l1, l2, l3, some (.int x4), some (.int x5)], [], σ) else runF C d m_Work_doAgain (27, [l0, l1, l2, l3, some (.int x4), some (.int x5)], [], σ) := by
  refine (r_iload 5 (show decode (zb m_Work_doAgain) 20 = .ok (.iload 5, 2) from by decide +kernel) rfl).trans ?_
  refine (r_iload 4 (show decode (zb m_Work_doAgain) 22 = .ok (.iload 4, 2) from by decide +kernel) rfl).trans ?_
  exact r_icmp_ge 62 (show decode (zb m_Work_doAgain) 24 = .ok (.if_icmp .ge (38), 3) from by decide +kernel) rfl
theorem b_Work_doAgain_27 {C : CF} {d : Nat} {σ : HP} {a0 : Nat} {l1 : Option Value} {l2 : Option Value} {l3 : Option Value} {l4 : Option Value} {l5 : Option Value} (h1 : a0 % 64 = 10) : runF C d m_Work_doAgain (27, [some (.ref a0), l1, l2, l3, l4, l5], [], σ) = if (200 : Int32) ≤ (gI σ a0 4) then runF C d m_Work_doAgain (62, [some (.ref a0), l1, l2, l3, l4, l5], [], σ) else runF C d m_Work_doAgain (37, [some (.ref a0), l1, l2, l3, l4, l5], [], σ) := by
  refine (r_aloadn 0 (show decode (zb m_Work_doAgain) 27 = .ok (.aload_n 0, 1) from by decide +kernel) rfl).trans ?_
  refine (r_getI (show decode (zb m_Work_doAgain) 28 = .ok (.getfield 25, 3) from by decide +kernel) rfl rfl h1).trans ?_
  refine (r_sipush (v := (200 : Int32)) (show decode (zb m_Work_doAgain) 31 = .ok (.sipush (200), 3) from by decide +kernel) (by decide)).trans ?_
  exact r_icmp_ge 62 (show decode (zb m_Work_doAgain) 34 = .ok (.if_icmp .ge (28), 3) from by decide +kernel) rfl
theorem b_Work_doAgain_37 {C : CF} {d : Nat} {σ : HP} {a0 : Nat} {a1 : Nat} {x2 : Int32} {l3 : Option Value} {l4 : Option Value} {l5 : Option Value} (h1 : a0 % 64 = 10) (h2 : (gR σ a0 2).isSome = true) : runF C d m_Work_doAgain (37, [some (.ref a0), some (.ref a1), some (.int x2), l3, l4, l5], [], σ) = bkN C d m_Work_doAgain 47 [some (.ref a0), some (.ref a1), some (.int x2), l3, l4, l5] [.int (x2 + (1 : Int32)), .ref a1, .ref a0] (C m_PL_at [.ref (dr (gR σ a0 2)), .int x2] σ) := by
  refine (r_aloadn 0 (show decode (zb m_Work_doAgain) 37 = .ok (.aload_n 0, 1) from by decide +kernel) rfl).trans ?_
  refine (r_aloadn 1 (show decode (zb m_Work_doAgain) 38 = .ok (.aload_n 1, 1) from by decide +kernel) rfl).trans ?_
  refine (r_iloadn 2 (show decode (zb m_Work_doAgain) 39 = .ok (.iload_n 2, 1) from by decide +kernel) rfl).trans ?_
  refine (r_iconst (v := (1 : Int32)) (show decode (zb m_Work_doAgain) 40 = .ok (.iconst (1), 1) from by decide +kernel) (by decide)).trans ?_
  refine (r_iadd (show decode (zb m_Work_doAgain) 41 = .ok (.iadd, 1) from by decide +kernel)).trans ?_
  refine (r_aloadn 0 (show decode (zb m_Work_doAgain) 42 = .ok (.aload_n 0, 1) from by decide +kernel) rfl).trans ?_
  refine (r_getR (show decode (zb m_Work_doAgain) 43 = .ok (.getfield 18, 3) from by decide +kernel) rfl rfl h1 h2).trans ?_
  refine (r_iloadn 2 (show decode (zb m_Work_doAgain) 46 = .ok (.iload_n 2, 1) from by decide +kernel) rfl).trans ?_
  exact r_stat (args := [.ref (dr (gR σ a0 2)), .int x2]) (rest := [.int (x2 + (1 : Int32)), .ref a1, .ref a0]) (show decode (zb m_Work_doAgain) 47 = .ok (.invokestatic 91, 3) from by decide +kernel) rfl (by decide) rfl rfl
theorem b_Work_doAgain_50 {C : CF} {d : Nat} {σ : HP} {s0 : Int32} {s1 : Int32} {r2 : Nat} {r3 : Nat} {x3 : Int32} {l0 : Option Value} {l1 : Option Value} {l2 : Option Value} {l4 : Option Value} {l5 : Option Value} (h1 : r3 % 64 = 10) : runF C d m_Work_doAgain (50, [l0, l1, l2, some (.int x3), l4, l5], [.int s0, .int s1, .ref r2, .ref r3], σ) = bk C d m_Work_doAgain 53 [l0, l1, l2, some (.int x3), l4, l5] [] (C m_Work_doSteps [.ref r3, .ref r2, .int s1, .int s0, .int (x3 + (1 : Int32))] σ) := by
  refine (r_iloadn 3 (show decode (zb m_Work_doAgain) 50 = .ok (.iload_n 3, 1) from by decide +kernel) rfl).trans ?_
  refine (r_iconst (v := (1 : Int32)) (show decode (zb m_Work_doAgain) 51 = .ok (.iconst (1), 1) from by decide +kernel) (by decide)).trans ?_
  refine (r_iadd (show decode (zb m_Work_doAgain) 52 = .ok (.iadd, 1) from by decide +kernel)).trans ?_
  exact r_virt (args := [.ref r2, .int s1, .int s0, .int (x3 + (1 : Int32))]) (rest := []) (show decode (zb m_Work_doAgain) 53 = .ok (.invokevirtual 107, 3) from by decide +kernel) rfl rfl rfl h1
theorem b_Work_doAgain_56 {C : CF} {d : Nat} {σ : HP} {x5 : Int32} {l0 : Option Value} {l1 : Option Value} {l2 : Option Value} {l3 : Option Value} {l4 : Option Value}  : runF C d m_Work_doAgain (56, [l0, l1, l2, l3, l4, some (.int x5)], [], σ) = runF C d m_Work_doAgain (20, [l0, l1, l2, l3, l4, some (.int (x5 + (1 : Int32)))], [], σ) := by
  refine (r_iinc 5 (v := (1 : Int32)) (show decode (zb m_Work_doAgain) 56 = .ok (.iinc 5 (1), 3) from by decide +kernel) rfl rfl (by decide)).trans ?_
  exact r_goto 20 (show decode (zb m_Work_doAgain) 59 = .ok (.goto (-39), 3) from by decide +kernel) rfl
theorem b_Work_doAgain_62 {C : CF} {d : Nat} {σ : HP} {l0 : Option Value} {l1 : Option Value} {l2 : Option Value} {l3 : Option Value} {l4 : Option Value} {l5 : Option Value}  : runF C d m_Work_doAgain (62, [l0, l1, l2, l3, l4, l5], [], σ) = some (.inl none, σ) := by
  exact r_vret (show decode (zb m_Work_doAgain) 62 = .ok (.return_, 1) from by decide +kernel) rfl
theorem e_Work_doStep {d : Nat} {σ : HP} {a0 : Nat} {x1 : Int32} {x2 : Int32} {x3 : Int32} : callF (d + 1) m_Work_doStep [.ref a0, .int x1, .int x2, .int x3] σ = runF (callF d) d m_Work_doStep (0, [some (.ref a0), some (.int x1), some (.int x2), some (.int x3)], [], σ) := callF_in rfl rfl
theorem b_Work_doStep_0 {C : CF} {d : Nat} {σ : HP} {x1 : Int32} {l0 : Option Value} {l2 : Option Value} {l3 : Option Value}  : runF C d m_Work_doStep (0, [l0, some (.int x1), l2, l3], [], σ) = if x1 = 0 then runF C d m_Work_doStep (40, [l0, some (.int x1), l2, l3], [], σ) else if x1 = 1 then runF C d m_Work_doStep (46, [l0, some (.int x1), l2, l3], [], σ) else if x1 = 2 then runF C d m_Work_doStep (52, [l0, some (.int x1), l2, l3], [], σ) else if x1 = 3 then runF C d m_Work_doStep (59, [l0, some (.int x1), l2, l3], [], σ) else if x1 = 4 then runF C d m_Work_doStep (65, [l0, some (.int x1), l2, l3], [], σ) else if x1 = 5 then runF C d m_Work_doStep (70, [l0, some (.int x1), l2, l3], [], σ) else runF C d m_Work_doStep (77, [l0, some (.int x1), l2, l3], [], σ) := by
  refine (r_iloadn 1 (show decode (zb m_Work_doStep) 0 = .ok (.iload_n 1, 1) from by decide +kernel) rfl).trans ?_
  by_cases q0 : x1 = 0
  · rw [if_pos q0]
    exact r_table 40 (show decode (zb m_Work_doStep) 1 = .ok (.tableswitch (76) (0) (5) #[(39), (45), (51), (58), (64), (69)], 39) from by decide +kernel) (tb_in q0 rfl rfl rfl)
  rw [if_neg q0]
  by_cases q1 : x1 = 1
  · rw [if_pos q1]
    exact r_table 46 (show decode (zb m_Work_doStep) 1 = .ok (.tableswitch (76) (0) (5) #[(39), (45), (51), (58), (64), (69)], 39) from by decide +kernel) (tb_in q1 rfl rfl rfl)
  rw [if_neg q1]
  by_cases q2 : x1 = 2
  · rw [if_pos q2]
    exact r_table 52 (show decode (zb m_Work_doStep) 1 = .ok (.tableswitch (76) (0) (5) #[(39), (45), (51), (58), (64), (69)], 39) from by decide +kernel) (tb_in q2 rfl rfl rfl)
  rw [if_neg q2]
  by_cases q3 : x1 = 3
  · rw [if_pos q3]
    exact r_table 59 (show decode (zb m_Work_doStep) 1 = .ok (.tableswitch (76) (0) (5) #[(39), (45), (51), (58), (64), (69)], 39) from by decide +kernel) (tb_in q3 rfl rfl rfl)
  rw [if_neg q3]
  by_cases q4 : x1 = 4
  · rw [if_pos q4]
    exact r_table 65 (show decode (zb m_Work_doStep) 1 = .ok (.tableswitch (76) (0) (5) #[(39), (45), (51), (58), (64), (69)], 39) from by decide +kernel) (tb_in q4 rfl rfl rfl)
  rw [if_neg q4]
  by_cases q5 : x1 = 5
  · rw [if_pos q5]
    exact r_table 70 (show decode (zb m_Work_doStep) 1 = .ok (.tableswitch (76) (0) (5) #[(39), (45), (51), (58), (64), (69)], 39) from by decide +kernel) (tb_in q5 rfl rfl rfl)
  rw [if_neg q5]
  have e0 : (Int32.toInt x1) ≠ 0 := ne_toInt q0
  have e1 : (Int32.toInt x1) ≠ 1 := ne_toInt q1
  have e2 : (Int32.toInt x1) ≠ 2 := ne_toInt q2
  have e3 : (Int32.toInt x1) ≠ 3 := ne_toInt q3
  have e4 : (Int32.toInt x1) ≠ 4 := ne_toInt q4
  have e5 : (Int32.toInt x1) ≠ 5 := ne_toInt q5
  exact r_table 77 (show decode (zb m_Work_doStep) 1 = .ok (.tableswitch (76) (0) (5) #[(39), (45), (51), (58), (64), (69)], 39) from by decide +kernel) (tb_out (by omega) rfl)
theorem b_Work_doStep_40 {C : CF} {d : Nat} {σ : HP} {a0 : Nat} {x2 : Int32} {l1 : Option Value} {l3 : Option Value} (h1 : a0 % 64 = 5) : runF C d m_Work_doStep (40, [some (.ref a0), l1, some (.int x2), l3], [], σ) = bk C d m_Work_doStep 42 [some (.ref a0), l1, some (.int x2), l3] [] (C m_Lift_letIn [.ref a0, .int x2] σ) := by
  refine (r_aloadn 0 (show decode (zb m_Work_doStep) 40 = .ok (.aload_n 0, 1) from by decide +kernel) rfl).trans ?_
  refine (r_iloadn 2 (show decode (zb m_Work_doStep) 41 = .ok (.iload_n 2, 1) from by decide +kernel) rfl).trans ?_
  exact r_virt (args := [.int x2]) (rest := []) (show decode (zb m_Work_doStep) 42 = .ok (.invokevirtual 116, 3) from by decide +kernel) rfl rfl rfl h1
theorem b_Work_doStep_45 {C : CF} {d : Nat} {σ : HP} {s0 : Int32} {l0 : Option Value} {l1 : Option Value} {l2 : Option Value} {l3 : Option Value} (h1 : s0 = 0 ∨ s0 = 1) : runF C d m_Work_doStep (45, [l0, l1, l2, l3], [.int s0], σ) = some (.inl (some (.int s0)), σ) := by
  exact r_bret (show decode (zb m_Work_doStep) 45 = .ok (.ireturn, 1) from by decide +kernel) rfl h1
theorem b_Work_doStep_46 {C : CF} {d : Nat} {σ : HP} {a0 : Nat} {x2 : Int32} {l1 : Option Value} {l3 : Option Value} (h1 : a0 % 64 = 5) : runF C d m_Work_doStep (46, [some (.ref a0), l1, some (.int x2), l3], [], σ) = bk C d m_Work_doStep 48 [some (.ref a0), l1, some (.int x2), l3] [] (C m_Lift_letOut [.ref a0, .int x2] σ) := by
  refine (r_aloadn 0 (show decode (zb m_Work_doStep) 46 = .ok (.aload_n 0, 1) from by decide +kernel) rfl).trans ?_
  refine (r_iloadn 2 (show decode (zb m_Work_doStep) 47 = .ok (.iload_n 2, 1) from by decide +kernel) rfl).trans ?_
  exact r_virt (args := [.int x2]) (rest := []) (show decode (zb m_Work_doStep) 48 = .ok (.invokevirtual 122, 3) from by decide +kernel) rfl rfl rfl h1
theorem b_Work_doStep_51 {C : CF} {d : Nat} {σ : HP} {s0 : Int32} {l0 : Option Value} {l1 : Option Value} {l2 : Option Value} {l3 : Option Value} (h1 : s0 = 0 ∨ s0 = 1) : runF C d m_Work_doStep (51, [l0, l1, l2, l3], [.int s0], σ) = some (.inl (some (.int s0)), σ) := by
  exact r_bret (show decode (zb m_Work_doStep) 51 = .ok (.ireturn, 1) from by decide +kernel) rfl h1
theorem b_Work_doStep_52 {C : CF} {d : Nat} {σ : HP} {a0 : Nat} {x2 : Int32} {x3 : Int32} {l1 : Option Value} (h1 : a0 % 64 = 5) : runF C d m_Work_doStep (52, [some (.ref a0), l1, some (.int x2), some (.int x3)], [], σ) = bk C d m_Work_doStep 55 [some (.ref a0), l1, some (.int x2), some (.int x3)] [] (C m_Lift_sayTo [.ref a0, .int x2, .int x3] σ) := by
  refine (r_aloadn 0 (show decode (zb m_Work_doStep) 52 = .ok (.aload_n 0, 1) from by decide +kernel) rfl).trans ?_
  refine (r_iloadn 2 (show decode (zb m_Work_doStep) 53 = .ok (.iload_n 2, 1) from by decide +kernel) rfl).trans ?_
  refine (r_iloadn 3 (show decode (zb m_Work_doStep) 54 = .ok (.iload_n 3, 1) from by decide +kernel) rfl).trans ?_
  exact r_virt (args := [.int x2, .int x3]) (rest := []) (show decode (zb m_Work_doStep) 55 = .ok (.invokevirtual 125, 3) from by decide +kernel) rfl rfl rfl h1
theorem b_Work_doStep_58 {C : CF} {d : Nat} {σ : HP} {s0 : Int32} {l0 : Option Value} {l1 : Option Value} {l2 : Option Value} {l3 : Option Value} (h1 : s0 = 0 ∨ s0 = 1) : runF C d m_Work_doStep (58, [l0, l1, l2, l3], [.int s0], σ) = some (.inl (some (.int s0)), σ) := by
  exact r_bret (show decode (zb m_Work_doStep) 58 = .ok (.ireturn, 1) from by decide +kernel) rfl h1
theorem b_Work_doStep_59 {C : CF} {d : Nat} {σ : HP} {a0 : Nat} {x2 : Int32} {l1 : Option Value} {l3 : Option Value} (h1 : a0 % 64 = 5) : runF C d m_Work_doStep (59, [some (.ref a0), l1, some (.int x2), l3], [], σ) = bk C d m_Work_doStep 61 [some (.ref a0), l1, some (.int x2), l3] [] (C m_Lift_insultOne [.ref a0, .int x2] σ) := by
  refine (r_aloadn 0 (show decode (zb m_Work_doStep) 59 = .ok (.aload_n 0, 1) from by decide +kernel) rfl).trans ?_
  refine (r_iloadn 2 (show decode (zb m_Work_doStep) 60 = .ok (.iload_n 2, 1) from by decide +kernel) rfl).trans ?_
  exact r_virt (args := [.int x2]) (rest := []) (show decode (zb m_Work_doStep) 61 = .ok (.invokevirtual 129, 3) from by decide +kernel) rfl rfl rfl h1
theorem b_Work_doStep_64 {C : CF} {d : Nat} {σ : HP} {s0 : Int32} {l0 : Option Value} {l1 : Option Value} {l2 : Option Value} {l3 : Option Value} (h1 : s0 = 0 ∨ s0 = 1) : runF C d m_Work_doStep (64, [l0, l1, l2, l3], [.int s0], σ) = some (.inl (some (.int s0)), σ) := by
  exact r_bret (show decode (zb m_Work_doStep) 64 = .ok (.ireturn, 1) from by decide +kernel) rfl h1
theorem b_Work_doStep_65 {C : CF} {d : Nat} {σ : HP} {a0 : Nat} {l1 : Option Value} {l2 : Option Value} {l3 : Option Value} (h1 : a0 % 64 = 5) : runF C d m_Work_doStep (65, [some (.ref a0), l1, l2, l3], [], σ) = bk C d m_Work_doStep 66 [some (.ref a0), l1, l2, l3] [] (C m_Lift_goOnce [.ref a0] σ) := by
  refine (r_aloadn 0 (show decode (zb m_Work_doStep) 65 = .ok (.aload_n 0, 1) from by decide +kernel) rfl).trans ?_
  exact r_virt (args := []) (rest := []) (show decode (zb m_Work_doStep) 66 = .ok (.invokevirtual 132, 3) from by decide +kernel) rfl rfl rfl h1
theorem b_Work_doStep_69 {C : CF} {d : Nat} {σ : HP} {s0 : Int32} {l0 : Option Value} {l1 : Option Value} {l2 : Option Value} {l3 : Option Value} (h1 : s0 = 0 ∨ s0 = 1) : runF C d m_Work_doStep (69, [l0, l1, l2, l3], [.int s0], σ) = some (.inl (some (.int s0)), σ) := by
  exact r_bret (show decode (zb m_Work_doStep) 69 = .ok (.ireturn, 1) from by decide +kernel) rfl h1
theorem b_Work_doStep_70 {C : CF} {d : Nat} {σ : HP} {a0 : Nat} {x2 : Int32} {x3 : Int32} {l1 : Option Value} (h1 : a0 % 64 = 5) : runF C d m_Work_doStep (70, [some (.ref a0), l1, some (.int x2), some (.int x3)], [], σ) = bk C d m_Work_doStep 73 [some (.ref a0), l1, some (.int x2), some (.int x3)] [] (C m_Lift_walkTo [.ref a0, .int x2, .int x3] σ) := by
  refine (r_aloadn 0 (show decode (zb m_Work_doStep) 70 = .ok (.aload_n 0, 1) from by decide +kernel) rfl).trans ?_
  refine (r_iloadn 2 (show decode (zb m_Work_doStep) 71 = .ok (.iload_n 2, 1) from by decide +kernel) rfl).trans ?_
  refine (r_iloadn 3 (show decode (zb m_Work_doStep) 72 = .ok (.iload_n 3, 1) from by decide +kernel) rfl).trans ?_
  exact r_virt (args := [.int x2, .int x3]) (rest := []) (show decode (zb m_Work_doStep) 73 = .ok (.invokevirtual 135, 3) from by decide +kernel) rfl rfl rfl h1
theorem b_Work_doStep_76 {C : CF} {d : Nat} {σ : HP} {s0 : Int32} {l0 : Option Value} {l1 : Option Value} {l2 : Option Value} {l3 : Option Value} (h1 : s0 = 0 ∨ s0 = 1) : runF C d m_Work_doStep (76, [l0, l1, l2, l3], [.int s0], σ) = some (.inl (some (.int s0)), σ) := by
  exact r_bret (show decode (zb m_Work_doStep) 76 = .ok (.ireturn, 1) from by decide +kernel) rfl h1
theorem b_Work_doStep_77 {C : CF} {d : Nat} {σ : HP} {a0 : Nat} {l1 : Option Value} {l2 : Option Value} {l3 : Option Value} (h1 : a0 % 64 = 5) : runF C d m_Work_doStep (77, [some (.ref a0), l1, l2, l3], [], σ) = bk C d m_Work_doStep 78 [some (.ref a0), l1, l2, l3] [] (C m_Lift_nightFalls [.ref a0] σ) := by
  refine (r_aloadn 0 (show decode (zb m_Work_doStep) 77 = .ok (.aload_n 0, 1) from by decide +kernel) rfl).trans ?_
  exact r_virt (args := []) (rest := []) (show decode (zb m_Work_doStep) 78 = .ok (.invokevirtual 138, 3) from by decide +kernel) rfl rfl rfl h1
theorem b_Work_doStep_81 {C : CF} {d : Nat} {σ : HP} {s0 : Int32} {l0 : Option Value} {l1 : Option Value} {l2 : Option Value} {l3 : Option Value} (h1 : s0 = 0 ∨ s0 = 1) : runF C d m_Work_doStep (81, [l0, l1, l2, l3], [.int s0], σ) = some (.inl (some (.int s0)), σ) := by
  exact r_bret (show decode (zb m_Work_doStep) 81 = .ok (.ireturn, 1) from by decide +kernel) rfl h1
theorem e_Work_behind {d : Nat} {σ : HP} {a0 : Nat} {x1 : Int32} : callF (d + 1) m_Work_behind [.ref a0, .int x1] σ = runF (callF d) d m_Work_behind (0, [some (.ref a0), some (.int x1)], [], σ) := callF_in rfl rfl
theorem b_Work_behind_0 {C : CF} {d : Nat} {σ : HP} {a0 : Nat} {x1 : Int32} (h1 : a0 % 64 = 10) (h2 : (gR σ a0 0).isSome = true) : runF C d m_Work_behind (0, [some (.ref a0), some (.int x1)], [], σ) = bkN C d m_Work_behind 5 [some (.ref a0), some (.int x1)] [] (C m_PL_at [.ref (dr (gR σ a0 0)), .int x1] σ) := by
  refine (r_aloadn 0 (show decode (zb m_Work_behind) 0 = .ok (.aload_n 0, 1) from by decide +kernel) rfl).trans ?_
  refine (r_getR (show decode (zb m_Work_behind) 1 = .ok (.getfield 9, 3) from by decide +kernel) rfl rfl h1 h2).trans ?_
  refine (r_iloadn 1 (show decode (zb m_Work_behind) 4 = .ok (.iload_n 1, 1) from by decide +kernel) rfl).trans ?_
  exact r_stat (args := [.ref (dr (gR σ a0 0)), .int x1]) (rest := []) (show decode (zb m_Work_behind) 5 = .ok (.invokestatic 91, 3) from by decide +kernel) rfl (by decide) rfl rfl
theorem b_Work_behind_8 {C : CF} {d : Nat} {σ : HP} {s0 : Int32} {l0 : Option Value} {l1 : Option Value}  : runF C d m_Work_behind (8, [l0, l1], [.int s0], σ) = if ¬ s0 = (7 : Int32) then runF C d m_Work_behind (30, [l0, l1], [], σ) else runF C d m_Work_behind (13, [l0, l1], [], σ) := by
  refine (r_bipush (v := (7 : Int32)) (show decode (zb m_Work_behind) 8 = .ok (.bipush (7), 2) from by decide +kernel) (by decide)).trans ?_
  exact r_icmp_ne 30 (show decode (zb m_Work_behind) 10 = .ok (.if_icmp .ne (20), 3) from by decide +kernel) rfl
theorem b_Work_behind_13 {C : CF} {d : Nat} {σ : HP} {x1 : Int32} {a0 : Nat} (h1 : a0 % 64 = 10) (h2 : (gR σ a0 2).isSome = true) : runF C d m_Work_behind (13, [some (.ref a0), some (.int x1)], [], σ) = bkN C d m_Work_behind 21 [some (.ref a0), some (.int x1)] [.int (x1 + (1 : Int32))] (C m_PL_at [.ref (dr (gR σ a0 2)), .int x1] σ) := by
  refine (r_iloadn 1 (show decode (zb m_Work_behind) 13 = .ok (.iload_n 1, 1) from by decide +kernel) rfl).trans ?_
  refine (r_iconst (v := (1 : Int32)) (show decode (zb m_Work_behind) 14 = .ok (.iconst (1), 1) from by decide +kernel) (by decide)).trans ?_
  refine (r_iadd (show decode (zb m_Work_behind) 15 = .ok (.iadd, 1) from by decide +kernel)).trans ?_
  refine (r_aloadn 0 (show decode (zb m_Work_behind) 16 = .ok (.aload_n 0, 1) from by decide +kernel) rfl).trans ?_
  refine (r_getR (show decode (zb m_Work_behind) 17 = .ok (.getfield 18, 3) from by decide +kernel) rfl rfl h1 h2).trans ?_
  refine (r_iloadn 1 (show decode (zb m_Work_behind) 20 = .ok (.iload_n 1, 1) from by decide +kernel) rfl).trans ?_
  exact r_stat (args := [.ref (dr (gR σ a0 2)), .int x1]) (rest := [.int (x1 + (1 : Int32))]) (show decode (zb m_Work_behind) 21 = .ok (.invokestatic 91, 3) from by decide +kernel) rfl (by decide) rfl rfl
theorem b_Work_behind_24 {C : CF} {d : Nat} {σ : HP} {s0 : Int32} {s1 : Int32} {l0 : Option Value} {l1 : Option Value}  : runF C d m_Work_behind (24, [l0, l1], [.int s0, .int s1], σ) = runF C d m_Work_behind (33, [l0, l1], [.int (p_max s1 s0)], σ) := by
  refine (r_max (show decode (zb m_Work_behind) 24 = .ok (.invokestatic 111, 3) from by decide +kernel) rfl rfl).trans ?_
  exact r_goto 33 (show decode (zb m_Work_behind) 27 = .ok (.goto (6), 3) from by decide +kernel) rfl
theorem b_Work_behind_30 {C : CF} {d : Nat} {σ : HP} {x1 : Int32} {l0 : Option Value}  : runF C d m_Work_behind (30, [l0, some (.int x1)], [], σ) = runF C d m_Work_behind (33, [l0, some (.int x1)], [.int (x1 + (1 : Int32))], σ) := by
  refine (r_iloadn 1 (show decode (zb m_Work_behind) 30 = .ok (.iload_n 1, 1) from by decide +kernel) rfl).trans ?_
  refine (r_iconst (v := (1 : Int32)) (show decode (zb m_Work_behind) 31 = .ok (.iconst (1), 1) from by decide +kernel) (by decide)).trans ?_
  exact r_iadd (show decode (zb m_Work_behind) 32 = .ok (.iadd, 1) from by decide +kernel)
theorem b_Work_behind_33 {C : CF} {d : Nat} {σ : HP} {s0 : Int32} {l0 : Option Value} {l1 : Option Value}  : runF C d m_Work_behind (33, [l0, l1], [.int s0], σ) = some (.inl (some (.int s0)), σ) := by
  exact r_iret (show decode (zb m_Work_behind) 33 = .ok (.ireturn, 1) from by decide +kernel) rfl rfl
theorem e_Integer_bitCount {d : Nat} {σ : HP} {x0 : Int32} : callF (d + 1) m_Integer_bitCount [.int x0] σ = runF (callF d) d m_Integer_bitCount (0, [some (.int x0)], [], σ) := callF_in rfl rfl
theorem b_Integer_bitCount_0 {C : CF} {d : Nat} {σ : HP} {x0 : Int32}  : runF C d m_Integer_bitCount (0, [some (.int x0)], [], σ) = some (.inl (some (.int ((((((((x0 - ((p_ushr x0 (1 : Int32)) &&& (1431655765 : Int32))) &&& (858993459 : Int32)) + ((p_ushr (x0 - ((p_ushr x0 (1 : Int32)) &&& (1431655765 : Int32))) (2 : Int32)) &&& (858993459 : Int32))) + (p_ushr (((x0 - ((p_ushr x0 (1 : Int32)) &&& (1431655765 : Int32))) &&& (858993459 : Int32)) + ((p_ushr (x0 - ((p_ushr x0 (1 : Int32)) &&& (1431655765 : Int32))) (2 : Int32)) &&& (858993459 : Int32))) (4 : Int32))) &&& (252645135 : Int32)) + (p_ushr (((((x0 - ((p_ushr x0 (1 : Int32)) &&& (1431655765 : Int32))) &&& (858993459 : Int32)) + ((p_ushr (x0 - ((p_ushr x0 (1 : Int32)) &&& (1431655765 : Int32))) (2 : Int32)) &&& (858993459 : Int32))) + (p_ushr (((x0 - ((p_ushr x0 (1 : Int32)) &&& (1431655765 : Int32))) &&& (858993459 : Int32)) + ((p_ushr (x0 - ((p_ushr x0 (1 : Int32)) &&& (1431655765 : Int32))) (2 : Int32)) &&& (858993459 : Int32))) (4 : Int32))) &&& (252645135 : Int32)) (8 : Int32))) + (p_ushr ((((((x0 - ((p_ushr x0 (1 : Int32)) &&& (1431655765 : Int32))) &&& (858993459 : Int32)) + ((p_ushr (x0 - ((p_ushr x0 (1 : Int32)) &&& (1431655765 : Int32))) (2 : Int32)) &&& (858993459 : Int32))) + (p_ushr (((x0 - ((p_ushr x0 (1 : Int32)) &&& (1431655765 : Int32))) &&& (858993459 : Int32)) + ((p_ushr (x0 - ((p_ushr x0 (1 : Int32)) &&& (1431655765 : Int32))) (2 : Int32)) &&& (858993459 : Int32))) (4 : Int32))) &&& (252645135 : Int32)) + (p_ushr (((((x0 - ((p_ushr x0 (1 : Int32)) &&& (1431655765 : Int32))) &&& (858993459 : Int32)) + ((p_ushr (x0 - ((p_ushr x0 (1 : Int32)) &&& (1431655765 : Int32))) (2 : Int32)) &&& (858993459 : Int32))) + (p_ushr (((x0 - ((p_ushr x0 (1 : Int32)) &&& (1431655765 : Int32))) &&& (858993459 : Int32)) + ((p_ushr (x0 - ((p_ushr x0 (1 : Int32)) &&& (1431655765 : Int32))) (2 : Int32)) &&& (858993459 : Int32))) (4 : Int32))) &&& (252645135 : Int32)) (8 : Int32))) (16 : Int32))) &&& (63 : Int32)))), σ) := by
  refine (r_iloadn 0 (show decode (zb m_Integer_bitCount) 0 = .ok (.iload_n 0, 1) from by decide +kernel) rfl).trans ?_
  refine (r_iloadn 0 (show decode (zb m_Integer_bitCount) 1 = .ok (.iload_n 0, 1) from by decide +kernel) rfl).trans ?_
  refine (r_iconst (v := (1 : Int32)) (show decode (zb m_Integer_bitCount) 2 = .ok (.iconst (1), 1) from by decide +kernel) (by decide)).trans ?_
  refine (r_iushr (show decode (zb m_Integer_bitCount) 3 = .ok (.iushr, 1) from by decide +kernel)).trans ?_
  refine (r_ldcwI (v := (1431655765 : Int32)) (show decode (zb m_Integer_bitCount) 4 = .ok (.ldc_w 265, 3) from by decide +kernel) rfl).trans ?_
  refine (r_iand (show decode (zb m_Integer_bitCount) 7 = .ok (.iand, 1) from by decide +kernel)).trans ?_
  refine (r_isub (show decode (zb m_Integer_bitCount) 8 = .ok (.isub, 1) from by decide +kernel)).trans ?_
  refine (r_istoren 0 (show decode (zb m_Integer_bitCount) 9 = .ok (.istore_n 0, 1) from by decide +kernel) rfl).trans ?_
  refine (r_iloadn 0 (show decode (zb m_Integer_bitCount) 10 = .ok (.iload_n 0, 1) from by decide +kernel) rfl).trans ?_
  refine (r_ldcwI (v := (858993459 : Int32)) (show decode (zb m_Integer_bitCount) 11 = .ok (.ldc_w 266, 3) from by decide +kernel) rfl).trans ?_
  refine (r_iand (show decode (zb m_Integer_bitCount) 14 = .ok (.iand, 1) from by decide +kernel)).trans ?_
  refine (r_iloadn 0 (show decode (zb m_Integer_bitCount) 15 = .ok (.iload_n 0, 1) from by decide +kernel) rfl).trans ?_
  refine (r_iconst (v := (2 : Int32)) (show decode (zb m_Integer_bitCount) 16 = .ok (.iconst (2), 1) from by decide +kernel) (by decide)).trans ?_
  refine (r_iushr (show decode (zb m_Integer_bitCount) 17 = .ok (.iushr, 1) from by decide +kernel)).trans ?_
  refine (r_ldcwI (v := (858993459 : Int32)) (show decode (zb m_Integer_bitCount) 18 = .ok (.ldc_w 266, 3) from by decide +kernel) rfl).trans ?_
  refine (r_iand (show decode (zb m_Integer_bitCount) 21 = .ok (.iand, 1) from by decide +kernel)).trans ?_
  refine (r_iadd (show decode (zb m_Integer_bitCount) 22 = .ok (.iadd, 1) from by decide +kernel)).trans ?_
  refine (r_istoren 0 (show decode (zb m_Integer_bitCount) 23 = .ok (.istore_n 0, 1) from by decide +kernel) rfl).trans ?_
  refine (r_iloadn 0 (show decode (zb m_Integer_bitCount) 24 = .ok (.iload_n 0, 1) from by decide +kernel) rfl).trans ?_
  refine (r_iloadn 0 (show decode (zb m_Integer_bitCount) 25 = .ok (.iload_n 0, 1) from by decide +kernel) rfl).trans ?_
  refine (r_iconst (v := (4 : Int32)) (show decode (zb m_Integer_bitCount) 26 = .ok (.iconst (4), 1) from by decide +kernel) (by decide)).trans ?_
  refine (r_iushr (show decode (zb m_Integer_bitCount) 27 = .ok (.iushr, 1) from by decide +kernel)).trans ?_
  refine (r_iadd (show decode (zb m_Integer_bitCount) 28 = .ok (.iadd, 1) from by decide +kernel)).trans ?_
  refine (r_ldcwI (v := (252645135 : Int32)) (show decode (zb m_Integer_bitCount) 29 = .ok (.ldc_w 267, 3) from by decide +kernel) rfl).trans ?_
  refine (r_iand (show decode (zb m_Integer_bitCount) 32 = .ok (.iand, 1) from by decide +kernel)).trans ?_
  refine (r_istoren 0 (show decode (zb m_Integer_bitCount) 33 = .ok (.istore_n 0, 1) from by decide +kernel) rfl).trans ?_
  refine (r_iloadn 0 (show decode (zb m_Integer_bitCount) 34 = .ok (.iload_n 0, 1) from by decide +kernel) rfl).trans ?_
  refine (r_iloadn 0 (show decode (zb m_Integer_bitCount) 35 = .ok (.iload_n 0, 1) from by decide +kernel) rfl).trans ?_
  refine (r_bipush (v := (8 : Int32)) (show decode (zb m_Integer_bitCount) 36 = .ok (.bipush (8), 2) from by decide +kernel) (by decide)).trans ?_
  refine (r_iushr (show decode (zb m_Integer_bitCount) 38 = .ok (.iushr, 1) from by decide +kernel)).trans ?_
  refine (r_iadd (show decode (zb m_Integer_bitCount) 39 = .ok (.iadd, 1) from by decide +kernel)).trans ?_
  refine (r_istoren 0 (show decode (zb m_Integer_bitCount) 40 = .ok (.istore_n 0, 1) from by decide +kernel) rfl).trans ?_
  refine (r_iloadn 0 (show decode (zb m_Integer_bitCount) 41 = .ok (.iload_n 0, 1) from by decide +kernel) rfl).trans ?_
  refine (r_iloadn 0 (show decode (zb m_Integer_bitCount) 42 = .ok (.iload_n 0, 1) from by decide +kernel) rfl).trans ?_
  refine (r_bipush (v := (16 : Int32)) (show decode (zb m_Integer_bitCount) 43 = .ok (.bipush (16), 2) from by decide +kernel) (by decide)).trans ?_
  refine (r_iushr (show decode (zb m_Integer_bitCount) 45 = .ok (.iushr, 1) from by decide +kernel)).trans ?_
  refine (r_iadd (show decode (zb m_Integer_bitCount) 46 = .ok (.iadd, 1) from by decide +kernel)).trans ?_
  refine (r_istoren 0 (show decode (zb m_Integer_bitCount) 47 = .ok (.istore_n 0, 1) from by decide +kernel) rfl).trans ?_
  refine (r_iloadn 0 (show decode (zb m_Integer_bitCount) 48 = .ok (.iload_n 0, 1) from by decide +kernel) rfl).trans ?_
  refine (r_bipush (v := (63 : Int32)) (show decode (zb m_Integer_bitCount) 49 = .ok (.bipush (63), 2) from by decide +kernel) (by decide)).trans ?_
  refine (r_iand (show decode (zb m_Integer_bitCount) 51 = .ok (.iand, 1) from by decide +kernel)).trans ?_
  exact r_iret (show decode (zb m_Integer_bitCount) 52 = .ok (.ireturn, 1) from by decide +kernel) rfl rfl
theorem e_Arrays_fill {d : Nat} {σ : HP} {a0 : Nat} {x1 : Int32} : callF (d + 1) m_Arrays_fill [.ref a0, .int x1] σ = runF (callF d) d m_Arrays_fill (0, [some (.ref a0), some (.int x1), none, none], [], σ) := callF_in rfl rfl
theorem b_Arrays_fill_0 {C : CF} {d : Nat} {σ : HP} {a0 : Nat} {l1 : Option Value} {l2 : Option Value} {l3 : Option Value} (h1 : ¬ aty (a0 % 64) = 0) : runF C d m_Arrays_fill (0, [some (.ref a0), l1, l2, l3], [], σ) = runF C d m_Arrays_fill (5, [some (.ref a0), l1, some (.int ((0 : Int32))), some (.int (Int32.ofNat (alen (a0 % 64))))], [], σ) := by
  refine (r_iconst (v := (0 : Int32)) (show decode (zb m_Arrays_fill) 0 = .ok (.iconst (0), 1) from by decide +kernel) (by decide)).trans ?_
  refine (r_istoren 2 (show decode (zb m_Arrays_fill) 1 = .ok (.istore_n 2, 1) from by decide +kernel) rfl).trans ?_
  refine (r_aloadn 0 (show decode (zb m_Arrays_fill) 2 = .ok (.aload_n 0, 1) from by decide +kernel) rfl).trans ?_
  refine (r_alen (show decode (zb m_Arrays_fill) 3 = .ok (.arraylength, 1) from by decide +kernel) h1).trans ?_
  exact r_istoren 3 (show decode (zb m_Arrays_fill) 4 = .ok (.istore_n 3, 1) from by decide +kernel) rfl
theorem b_Arrays_fill_5 {C : CF} {d : Nat} {σ : HP} {x2 : Int32} {x3 : Int32} {l0 : Option Value} {l1 : Option Value}  : runF C d m_Arrays_fill (5, [l0, l1, some (.int x2), some (.int x3)], [], σ) = if x3 ≤ x2 then runF C d m_Arrays_fill (20, [l0, l1, some (.int x2), some (.int x3)], [], σ) else runF C d m_Arrays_fill (10, [l0, l1, some (.int x2), some (.int x3)], [], σ) := by
  refine (r_iloadn 2 (show decode (zb m_Arrays_fill) 5 = .ok (.iload_n 2, 1) from by decide +kernel) rfl).trans ?_
  refine (r_iloadn 3 (show decode (zb m_Arrays_fill) 6 = .ok (.iload_n 3, 1) from by decide +kernel) rfl).trans ?_
  exact r_icmp_ge 20 (show decode (zb m_Arrays_fill) 7 = .ok (.if_icmp .ge (13), 3) from by decide +kernel) rfl
theorem b_Arrays_fill_10 {C : CF} {d : Nat} {σ : HP} {a0 : Nat} {x2 : Int32} {x1 : Int32} {l3 : Option Value} (h1 : aty (a0 % 64) = 1) (h2 : inR x2 (alen (a0 % 64)) = true) : runF C d m_Arrays_fill (10, [some (.ref a0), some (.int x1), some (.int x2), l3], [], σ) = runF C d m_Arrays_fill (5, [some (.ref a0), some (.int x1), some (.int (x2 + (1 : Int32))), l3], [], wI σ a0 (Int32.toNatClampNeg x2) x1) := by
  refine (r_aloadn 0 (show decode (zb m_Arrays_fill) 10 = .ok (.aload_n 0, 1) from by decide +kernel) rfl).trans ?_
  refine (r_iloadn 2 (show decode (zb m_Arrays_fill) 11 = .ok (.iload_n 2, 1) from by decide +kernel) rfl).trans ?_
  refine (r_iloadn 1 (show decode (zb m_Arrays_fill) 12 = .ok (.iload_n 1, 1) from by decide +kernel) rfl).trans ?_
  refine (r_iast (show decode (zb m_Arrays_fill) 13 = .ok (.iastore, 1) from by decide +kernel) h1 h2).trans ?_
  refine (r_iinc 2 (v := (1 : Int32)) (show decode (zb m_Arrays_fill) 14 = .ok (.iinc 2 (1), 3) from by decide +kernel) rfl rfl (by decide)).trans ?_
  exact r_goto 5 (show decode (zb m_Arrays_fill) 17 = .ok (.goto (-12), 3) from by decide +kernel) rfl
theorem b_Arrays_fill_20 {C : CF} {d : Nat} {σ : HP} {l0 : Option Value} {l1 : Option Value} {l2 : Option Value} {l3 : Option Value}  : runF C d m_Arrays_fill (20, [l0, l1, l2, l3], [], σ) = some (.inl none, σ) := by
  exact r_vret (show decode (zb m_Arrays_fill) 20 = .ok (.return_, 1) from by decide +kernel) rfl
theorem e_Arrays_fill2 {d : Nat} {σ : HP} {a0 : Nat} {j1 : Int64} : callF (d + 1) m_Arrays_fill2 [.ref a0, .long j1] σ = runF (callF d) d m_Arrays_fill2 (0, [some (.ref a0), some (.long j1), none, none, none], [], σ) := callF_in rfl rfl
theorem b_Arrays_fill2_0 {C : CF} {d : Nat} {σ : HP} {a0 : Nat} {l1 : Option Value} {l2 : Option Value} {l3 : Option Value} {l4 : Option Value} (h1 : ¬ aty (a0 % 64) = 0) : runF C d m_Arrays_fill2 (0, [some (.ref a0), l1, l2, l3, l4], [], σ) = runF C d m_Arrays_fill2 (6, [some (.ref a0), l1, l2, some (.int ((0 : Int32))), some (.int (Int32.ofNat (alen (a0 % 64))))], [], σ) := by
  refine (r_iconst (v := (0 : Int32)) (show decode (zb m_Arrays_fill2) 0 = .ok (.iconst (0), 1) from by decide +kernel) (by decide)).trans ?_
  refine (r_istoren 3 (show decode (zb m_Arrays_fill2) 1 = .ok (.istore_n 3, 1) from by decide +kernel) rfl).trans ?_
  refine (r_aloadn 0 (show decode (zb m_Arrays_fill2) 2 = .ok (.aload_n 0, 1) from by decide +kernel) rfl).trans ?_
  refine (r_alen (show decode (zb m_Arrays_fill2) 3 = .ok (.arraylength, 1) from by decide +kernel) h1).trans ?_
  exact r_istore 4 (show decode (zb m_Arrays_fill2) 4 = .ok (.istore 4, 2) from by decide +kernel) rfl
theorem b_Arrays_fill2_6 {C : CF} {d : Nat} {σ : HP} {x3 : Int32} {x4 : Int32} {l0 : Option Value} {l1 : Option Value} {l2 : Option Value}  : runF C d m_Arrays_fill2 (6, [l0, l1, l2, some (.int x3), some (.int x4)], [], σ) = if x4 ≤ x3 then runF C d m_Arrays_fill2 (22, [l0, l1, l2, some (.int x3), some (.int x4)], [], σ) else runF C d m_Arrays_fill2 (12, [l0, l1, l2, some (.int x3), some (.int x4)], [], σ) := by
  refine (r_iloadn 3 (show decode (zb m_Arrays_fill2) 6 = .ok (.iload_n 3, 1) from by decide +kernel) rfl).trans ?_
  refine (r_iload 4 (show decode (zb m_Arrays_fill2) 7 = .ok (.iload 4, 2) from by decide +kernel) rfl).trans ?_
  exact r_icmp_ge 22 (show decode (zb m_Arrays_fill2) 9 = .ok (.if_icmp .ge (13), 3) from by decide +kernel) rfl
theorem b_Arrays_fill2_12 {C : CF} {d : Nat} {σ : HP} {a0 : Nat} {x3 : Int32} {j1 : Int64} {l2 : Option Value} {l4 : Option Value} (h1 : aty (a0 % 64) = 2) (h2 : inR x3 (alen (a0 % 64)) = true) : runF C d m_Arrays_fill2 (12, [some (.ref a0), some (.long j1), l2, some (.int x3), l4], [], σ) = runF C d m_Arrays_fill2 (6, [some (.ref a0), some (.long j1), l2, some (.int (x3 + (1 : Int32))), l4], [], wJ σ a0 (Int32.toNatClampNeg x3) j1) := by
  refine (r_aloadn 0 (show decode (zb m_Arrays_fill2) 12 = .ok (.aload_n 0, 1) from by decide +kernel) rfl).trans ?_
  refine (r_iloadn 3 (show decode (zb m_Arrays_fill2) 13 = .ok (.iload_n 3, 1) from by decide +kernel) rfl).trans ?_
  refine (r_lloadn 1 (show decode (zb m_Arrays_fill2) 14 = .ok (.lload_n 1, 1) from by decide +kernel) rfl).trans ?_
  refine (r_last (show decode (zb m_Arrays_fill2) 15 = .ok (.lastore, 1) from by decide +kernel) h1 h2).trans ?_
  refine (r_iinc 3 (v := (1 : Int32)) (show decode (zb m_Arrays_fill2) 16 = .ok (.iinc 3 (1), 3) from by decide +kernel) rfl rfl (by decide)).trans ?_
  exact r_goto 6 (show decode (zb m_Arrays_fill2) 19 = .ok (.goto (-13), 3) from by decide +kernel) rfl
theorem b_Arrays_fill2_22 {C : CF} {d : Nat} {σ : HP} {l0 : Option Value} {l1 : Option Value} {l2 : Option Value} {l3 : Option Value} {l4 : Option Value}  : runF C d m_Arrays_fill2 (22, [l0, l1, l2, l3, l4], [], σ) = some (.inl none, σ) := by
  exact r_vret (show decode (zb m_Arrays_fill2) 22 = .ok (.return_, 1) from by decide +kernel) rfl
