/-! steps on rows -/
section SndR
variable {p : Program} {l : Launch} {e : Env} {R : Room} {s : State} {m : MethodId} {args : Array Value} {below : List Frame} {meth : Method} {c : Code} {Q : State → Prop}
variable {E : EE} {K : State → Prop} {mm : MM} {d : Nat} {σ0 : HP}
theorem kn_arr (A : Act E K p R s m args meth c mm d) {t : Nat} (h1 : 1 ≤ t) (h2 : t ≤ 5) : ArrOfT s (eC E t) (tyE t) ∧ va_RA s (eC E t) (tyE t) := A.2.2.2.2.2.2.2.2.2.1.1.2 (t - 1) _ (tyz_at E h1 h2)
theorem inR_in {i : Int32} {n : Nat} (h : inR i n = true) : ¬ (i < 0 ∨ n ≤ i.toNatClampNeg) := of_decide_eq_true h
theorem inR_lt {i : Int32} {n : Nat} (h : inR i n = true) : i.toNatClampNeg < n := Nat.not_le.mp fun q => inR_in h (Or.inr q)
theorem arr_in {cA : ClassId} {n : Nat} {f : Nat → Value} {i : Int32} (h : inR i n = true) : ¬ (i < 0 ∨ (arrV cA n f).slots.size ≤ i.toNatClampNeg) := by rw [arrV_size]; exact inR_in h
theorem arr_rd {cA : ClassId} {n : Nat} {f : Nat → Value} {i : Int32} (h : inR i n = true) : (arrV cA n f).slots[i.toNatClampNeg]? = some (f i.toNatClampNeg) := arrV_read _ _ (inR_lt h)
theorem av_upd {σ σ' : HP} {a j0 : Nat} {v : Value} (h1 : av E σ' a j0 = v) (h2 : ∀ j, j ≠ j0 → av E σ' a j = av E σ a j) : updV (av E σ a) j0 v = av E σ' a := by
  funext j
  unfold updV
  split
  · next e => rw [e, h1]
  · next e => rw [h2 j e]
/-- behind a write into a row -/
theorem row_set {σ σ' : HP} {H H' : Heap} {a j0 : Nat} {v : Value} {locs : List Loc} {L : LV} {r : List Value} {pc' : Nat} {ls : Array Slot} {cells slots : Nat} (hv : okV σ (.ref a)) (ht : aty (a % 64) ≠ 0) (h1 : LH E ls L) (h2 : Rep E σ H) (h3 : ∀ q ∈ locs, eB E ≤ q.base) (h4 : cells + hN σ0 = hN σ) (h5 : slots + hS σ0 = hS σ)
    (e1 : σ'.1 = σ.1) (eI : ∀ b k, b ≠ a → gI σ' b k = gI σ b k) (eJ : ∀ b k, b ≠ a → gJ σ' b k = gJ σ b k) (eR : ∀ b k, b ≠ a → gR σ' b k = gR σ b k) (ev : av E σ' a j0 = v) (eo : ∀ j, j ≠ j0 → av E σ' a j = av E σ a j)
    (g1 : H'[adr E a]? = some ((arrV (eC E (aty (a % 64))) (alen (a % 64)) (av E σ a)).setSlot j0 v)) (g2 : H'.size = H.size) (g3 : ∀ q, q ≠ adr E a → H'[q]? = H[q]?) (k : WK E p l e R s m args below meth c Q σ0 (pc', L, r, σ')) :
    W p l e R s m args below meth c H' (locs ++ [⟨adr E a, j0⟩]) cells slots Q (F0 m pc' ls (r.map (cv E))) := by
  obtain ⟨hvl, had, hce⟩ := rep_row h2 hv ht
  have h20 := aty_arr ht
  rw [arrV_store, av_upd ev eo] at g1
  refine k ls H' _ cells slots h1 ?_ (fun q hq => ?_) (by rw [h4]; show hN σ = hN σ'; unfold hN; rw [e1]) (by rw [h5]; show hS σ = hS σ'; unfold hS; rw [e1])
  · exact rep_upd h2 hvl (by omega) e1 eI eJ eR g2 (fun q hq => g3 q (by rw [had]; exact hq)) ⟨fun z => by omega, fun _ => by rw [had] at g1; exact g1⟩
  · rcases List.mem_append.mp hq with z | z
    · exact h3 q z
    · rw [List.mem_singleton.mp z]
      show eB E ≤ adr E a
      rw [had]
      exact Nat.le_add_right _ _
theorem sn_alen (A : Act E K p R s m args meth c mm d) {pc : Nat} {L : LV} {st : List Value} {σ : HP} {x : Cfg} (hd : decode (zb mm) pc = .ok (.arraylength, 1)) (w : WF mm (pc, L, st, σ)) (h : zAlen pc L st σ = some (.inr x)) (hr : Rm R σ0 x.2.2.2) (k : WK E p l e R s m args below meth c Q σ0 x) : WK E p l e R s m args below meth c Q σ0 (pc, L, st, σ) := by
  unfold zAlen at h
  split at h
  · next a r =>
    have hv : okV σ (.ref a) := w.1 _ List.mem_cons_self
    split at h
    · next ha =>
      cases h
      intro ls H locs cells slots h1 h2 h3 h4 h5
      obtain ⟨-, -, -, -, ⟨scr, g1, g2, g3, g4, g5⟩, g6, -⟩ := A.2.2.2.2.2.2.2.2.2.1
      have e1 : adr E a = eS E := by
        unfold adr
        rw [if_neg (by rw [ha]; decide), if_pos ha]
      show W p l e R s m args below meth c H locs cells slots Q (F0 m pc ls (.ref (adr E a) :: r.map (cv E)))
      rw [e1]
      refine W.alen (n := Int32.ofNat (hL σ)) A.1 A.2.1 (by rw [h2.2.1 _ g6]; exact g1) g2 (by rw [g4, h2.2.2.2.1]) rfl rfl hd (k ls H locs cells slots h1 h2 h3 h4 h5)
    · split at h
      · next hc =>
        cases h
        intro ls H locs cells slots h1 h2 h3 h4 h5
        obtain ⟨hvl, had, hce⟩ := rep_row h2 hv hc
        exact W.alen (n := Int32.ofNat (alen (a % 64))) A.1 A.2.1 hce ((kn_arr A (Nat.one_le_iff_ne_zero.mpr hc) (aty_le _ (Nat.mod_lt _ (by decide)))).1 _ _) (by rw [arrV_size]) rfl rfl hd (k ls H locs cells slots h1 h2 h3 h4 h5)
      · cases h
  · cases h
theorem sn_iald (A : Act E K p R s m args meth c mm d) {pc : Nat} {L : LV} {st : List Value} {σ : HP} {x : Cfg} (hd : decode (zb mm) pc = .ok (.iaload, 1)) (w : WF mm (pc, L, st, σ)) (h : zIald pc L st σ = some (.inr x)) (hr : Rm R σ0 x.2.2.2) (k : WK E p l e R s m args below meth c Q σ0 x) : WK E p l e R s m args below meth c Q σ0 (pc, L, st, σ) := by
  unfold zIald at h
  split at h
  · next i a r =>
    have hv : okV σ (.ref a) := w.1 _ (List.mem_cons_of_mem _ List.mem_cons_self)
    split at h
    · next ha =>
      have ha : a = 18 := ha
      subst ha
      split at h
      · next hi =>
        cases h
        intro ls H locs cells slots h1 h2 h3 h4 h5
        obtain ⟨-, -, -, -, ⟨scr, g1, g2, g3, g4, g5⟩, g6, -⟩ := A.2.2.2.2.2.2.2.2.2.1
        rw [h2.2.2.2.1] at hi
        refine W.iald (v := .int (gI σ 18 i.toNatClampNeg)) A.1 A.2.1 (a := eS E) (cell := scr) (by rw [h2.2.1 _ g6]; exact g1) g2 g3 (by rw [g4]; exact inR_in hi) (by rw [g5 _ (inR_lt hi), h2.2.2.2.2 _ (inR_lt hi)]) rfl rfl hd (k ls H locs cells slots h1 h2 h3 h4 h5)
      · cases h
    · split at h
      · next hc =>
        cases h
        intro ls H locs cells slots h1 h2 h3 h4 h5
        have ht : aty (a % 64) ≠ 0 := by rw [hc.1]; decide
        obtain ⟨hvl, had, hce⟩ := rep_row h2 hv ht
        have hA := (kn_arr A (t := 1) (by decide) (by decide)).1
        rw [hc.1] at hce
        refine W.iald (v := .int (gI σ a i.toNatClampNeg)) A.1 A.2.1 hce (hA _ _) (fun q => by cases q) (arr_in hc.2) (by rw [arr_rd hc.2]; unfold av; rw [if_pos (Or.inl hc.1)]) rfl rfl hd (k ls H locs cells slots h1 h2 h3 h4 h5)
      · cases h
  · cases h
theorem sn_bald (A : Act E K p R s m args meth c mm d) {pc : Nat} {L : LV} {st : List Value} {σ : HP} {x : Cfg} (hd : decode (zb mm) pc = .ok (.baload, 1)) (w : WF mm (pc, L, st, σ)) (h : zBald pc L st σ = some (.inr x)) (hr : Rm R σ0 x.2.2.2) (k : WK E p l e R s m args below meth c Q σ0 x) : WK E p l e R s m args below meth c Q σ0 (pc, L, st, σ) := by
  unfold zBald at h
  split at h
  · next i a r =>
    have hv : okV σ (.ref a) := w.1 _ (List.mem_cons_of_mem _ List.mem_cons_self)
    split at h
    · next hc =>
      cases h
      intro ls H locs cells slots h1 h2 h3 h4 h5
      have ht : aty (a % 64) ≠ 0 := by rw [hc.1]; decide
      obtain ⟨hvl, had, hce⟩ := rep_row h2 hv ht
      have hA := (kn_arr A (t := 3) (by decide) (by decide)).1
      rw [hc.1] at hce
      refine W.bald (v := .int (gI σ a i.toNatClampNeg)) A.1 A.2.1 hce (hA _ _) (fun q => by cases q) (arr_in hc.2) (by rw [arr_rd hc.2]; unfold av; rw [if_pos (Or.inr hc.1)]) rfl rfl hd (k ls H locs cells slots h1 h2 h3 h4 h5)
    · cases h
  · cases h
theorem sn_lald (A : Act E K p R s m args meth c mm d) {pc : Nat} {L : LV} {st : List Value} {σ : HP} {x : Cfg} (hd : decode (zb mm) pc = .ok (.laload, 1)) (w : WF mm (pc, L, st, σ)) (h : zLald pc L st σ = some (.inr x)) (hr : Rm R σ0 x.2.2.2) (k : WK E p l e R s m args below meth c Q σ0 x) : WK E p l e R s m args below meth c Q σ0 (pc, L, st, σ) := by
  unfold zLald at h
  split at h
  · next i a r =>
    have hv : okV σ (.ref a) := w.1 _ (List.mem_cons_of_mem _ List.mem_cons_self)
    split at h
    · next hc =>
      cases h
      intro ls H locs cells slots h1 h2 h3 h4 h5
      have ht : aty (a % 64) ≠ 0 := by rw [hc.1]; decide
      obtain ⟨hvl, had, hce⟩ := rep_row h2 hv ht
      have hA := (kn_arr A (t := 2) (by decide) (by decide)).1
      rw [hc.1] at hce
      refine W.lald (v := .long (gJ σ a i.toNatClampNeg)) A.1 A.2.1 hce (hA _ _) (fun q => by cases q) (arr_in hc.2) (by rw [arr_rd hc.2]; unfold av; rw [if_neg (by rw [hc.1]; decide), if_pos hc.1]) rfl rfl hd (k ls H locs cells slots h1 h2 h3 h4 h5)
    · cases h
  · cases h
theorem av_ref {σ : HP} {a j : Nat} (h : aty (a % 64) = 4 ∨ aty (a % 64) = 5) : av E σ a j = cv E (rv (gR σ a j)) := by
  unfold av
  rw [if_neg (by omega), if_neg (by omega)]
theorem sn_aald (A : Act E K p R s m args meth c mm d) {pc : Nat} {L : LV} {st : List Value} {σ : HP} {x : Cfg} (hd : decode (zb mm) pc = .ok (.aaload, 1)) (w : WF mm (pc, L, st, σ)) (h : zAald pc L st σ = some (.inr x)) (hr : Rm R σ0 x.2.2.2) (k : WK E p l e R s m args below meth c Q σ0 x) : WK E p l e R s m args below meth c Q σ0 (pc, L, st, σ) := by
  unfold zAald at h
  split at h
  · next i a r =>
    have hv : okV σ (.ref a) := w.1 _ (List.mem_cons_of_mem _ List.mem_cons_self)
    split at h
    · next hc =>
      cases h
      intro ls H locs cells slots h1 h2 h3 h4 h5
      have ht : aty (a % 64) ≠ 0 := by omega
      obtain ⟨hvl, had, hce⟩ := rep_row h2 hv ht
      have hA := (kn_arr A (t := aty (a % 64)) (by omega) (by omega)).1
      have hrf : (tyE (aty (a % 64))).isReference = true := by rcases hc.1 with q | q <;> rw [q] <;> rfl
      refine W.aald (v := cv E (rv (gR σ a i.toNatClampNeg))) A.1 A.2.1 hce (hA _ _) hrf (fun q => by cases q) (arr_in hc.2) (by rw [arr_rd hc.2, av_ref hc.1]) rfl rfl hd (k ls H locs cells slots h1 h2 h3 h4 h5)
    · cases h
  · cases h
theorem sn_iast (A : Act E K p R s m args meth c mm d) {pc : Nat} {L : LV} {st : List Value} {σ : HP} {x : Cfg} (hd : decode (zb mm) pc = .ok (.iastore, 1)) (w : WF mm (pc, L, st, σ)) (h : zIast pc L st σ = some (.inr x)) (hr : Rm R σ0 x.2.2.2) (k : WK E p l e R s m args below meth c Q σ0 x) : WK E p l e R s m args below meth c Q σ0 (pc, L, st, σ) := by
  unfold zIast at h
  split at h
  · next y i a r =>
    have hv : okV σ (.ref a) := w.1 _ (List.mem_cons_of_mem _ (List.mem_cons_of_mem _ List.mem_cons_self))
    split at h
    · next hc =>
      cases h
      intro ls H locs cells slots h1 h2 h3 h4 h5
      have ht : aty (a % 64) ≠ 0 := by rw [hc.1]; decide
      obtain ⟨hvl, had, hce⟩ := rep_row h2 hv ht
      have hA := (kn_arr A (t := 1) (by decide) (by decide)).1
      have hce' := hce
      rw [hc.1] at hce'
      refine W.iast A.1 A.2.1 hce' (hA _ _) (fun q => by cases q) (arr_in hc.2) rfl rfl hd fun H1 e1 z1 o1 => ?_
      refine row_set (σ' := wI σ a i.toNatClampNeg y) (v := .int y) hv ht h1 h2 h3 h4 h5 rfl (fun b j hb => if_neg (fun z => hb z.1)) (fun _ _ _ => rfl) (fun _ _ _ => rfl) ?_ (fun j hj => ?_) (by rw [hc.1]; exact e1) z1 o1 k
      · unfold av
        rw [if_pos (Or.inl hc.1)]
        exact congrArg Value.int (if_pos ⟨rfl, rfl⟩)
      · unfold av
        rw [show gI (wI σ a i.toNatClampNeg y) a j = gI σ a j from if_neg (fun z => hj z.2)]
        rfl
    · cases h
  · cases h
theorem sn_bast (A : Act E K p R s m args meth c mm d) {pc : Nat} {L : LV} {st : List Value} {σ : HP} {x : Cfg} (hd : decode (zb mm) pc = .ok (.bastore, 1)) (w : WF mm (pc, L, st, σ)) (h : zBast pc L st σ = some (.inr x)) (hr : Rm R σ0 x.2.2.2) (k : WK E p l e R s m args below meth c Q σ0 x) : WK E p l e R s m args below meth c Q σ0 (pc, L, st, σ) := by
  unfold zBast at h
  split at h
  · next y i a r =>
    have hv : okV σ (.ref a) := w.1 _ (List.mem_cons_of_mem _ (List.mem_cons_of_mem _ List.mem_cons_self))
    split at h
    · next hc =>
      cases h
      intro ls H locs cells slots h1 h2 h3 h4 h5
      have ht : aty (a % 64) ≠ 0 := by rw [hc.1]; decide
      obtain ⟨hvl, had, hce⟩ := rep_row h2 hv ht
      have hA := (kn_arr A (t := 3) (by decide) (by decide)).1
      have hce' := hce
      rw [hc.1] at hce'
      refine W.bast A.1 A.2.1 hce' (hA _ _) (fun q => by cases q) (arr_in hc.2) rfl rfl hd fun H1 e1 z1 o1 => ?_
      refine row_set (σ' := wI σ a i.toNatClampNeg y.toInt8.toInt32) (v := .int y.toInt8.toInt32) hv ht h1 h2 h3 h4 h5 rfl (fun b j hb => if_neg (fun z => hb z.1)) (fun _ _ _ => rfl) (fun _ _ _ => rfl) ?_ (fun j hj => ?_) (by rw [hc.1]; exact e1) z1 o1 k
      · unfold av
        rw [if_pos (Or.inr hc.1)]
        exact congrArg Value.int (if_pos ⟨rfl, rfl⟩)
      · unfold av
        rw [show gI (wI σ a i.toNatClampNeg y.toInt8.toInt32) a j = gI σ a j from if_neg (fun z => hj z.2)]
        rfl
    · cases h
  · cases h
theorem sn_last (A : Act E K p R s m args meth c mm d) {pc : Nat} {L : LV} {st : List Value} {σ : HP} {x : Cfg} (hd : decode (zb mm) pc = .ok (.lastore, 1)) (w : WF mm (pc, L, st, σ)) (h : zLast pc L st σ = some (.inr x)) (hr : Rm R σ0 x.2.2.2) (k : WK E p l e R s m args below meth c Q σ0 x) : WK E p l e R s m args below meth c Q σ0 (pc, L, st, σ) := by
  unfold zLast at h
  split at h
  · next y i a r =>
    have hv : okV σ (.ref a) := w.1 _ (List.mem_cons_of_mem _ (List.mem_cons_of_mem _ List.mem_cons_self))
    split at h
    · next hc =>
      cases h
      intro ls H locs cells slots h1 h2 h3 h4 h5
      have ht : aty (a % 64) ≠ 0 := by rw [hc.1]; decide
      obtain ⟨hvl, had, hce⟩ := rep_row h2 hv ht
      have hA := (kn_arr A (t := 2) (by decide) (by decide)).1
      have hce' := hce
      rw [hc.1] at hce'
      refine W.last A.1 A.2.1 hce' (hA _ _) (fun q => by cases q) (arr_in hc.2) rfl rfl hd fun H1 e1 z1 o1 => ?_
      refine row_set (σ' := wJ σ a i.toNatClampNeg y) (v := .long y) hv ht h1 h2 h3 h4 h5 rfl (fun _ _ _ => rfl) (fun b j hb => if_neg (fun z => hb z.1)) (fun _ _ _ => rfl) ?_ (fun j hj => ?_) (by rw [hc.1]; exact e1) z1 o1 k
      · unfold av
        rw [if_neg (by rw [hc.1]; decide), if_pos hc.1]
        exact congrArg Value.long (if_pos ⟨rfl, rfl⟩)
      · unfold av
        rw [show gJ (wJ σ a i.toNatClampNeg y) a j = gJ σ a j from if_neg (fun z => hj z.2)]
        rfl
    · cases h
  · cases h
theorem sn_aast (A : Act E K p R s m args meth c mm d) {pc : Nat} {L : LV} {st : List Value} {σ : HP} {x : Cfg} (hd : decode (zb mm) pc = .ok (.aastore, 1)) (w : WF mm (pc, L, st, σ)) (h : zAast pc L st σ = some (.inr x)) (hr : Rm R σ0 x.2.2.2) (k : WK E p l e R s m args below meth c Q σ0 x) : WK E p l e R s m args below meth c Q σ0 (pc, L, st, σ) := by
  unfold zAast at h
  split at h
  · next b i a r =>
    have hv : okV σ (.ref a) := w.1 _ (List.mem_cons_of_mem _ (List.mem_cons_of_mem _ List.mem_cons_self))
    have hvb : okV σ (.ref b) := w.1 _ List.mem_cons_self
    split at h
    · next hc =>
      cases h
      intro ls H locs cells slots h1 h2 h3 h4 h5
      have ht45 : aty (a % 64) = 4 ∨ aty (a % 64) = 5 := by
        rcases hc.1 with q | q
        · exact Or.inl q.1
        · exact Or.inr q.1
      have ht : aty (a % 64) ≠ 0 := by omega
      have hb13 : b % 64 < 13 := by
        rcases hc.1 with q | q
        · rw [q.2]; decide
        · rw [q.2]; decide
      have hC : tyE (aty (a % 64)) = .object (zC (b % 64)) := by
        rcases hc.1 with q | q
        · rw [q.1, q.2]; rfl
        · rw [q.1, q.2]; rfl
      obtain ⟨hvl, had, hce⟩ := rep_row h2 hv ht
      obtain ⟨-, hadb, cellB, b1, b2, b3, -⟩ := rep_ob h2 hvb hb13
      obtain ⟨hA, hRA⟩ := kn_arr A (t := aty (a % 64)) (by omega) (by omega)
      rw [hC] at hRA
      obtain ⟨kA, comp, k1, k2, k3, -⟩ := hRA
      have hcls := (A.2.2.2.2.2.2.2.2.2.1.1.1 (b % 64) _ (clz_at hb13)).2
      have hcomp : comp = (eD E).1 (b % 64) := Option.some.inj (k3.symm.trans hcls.1)
      subst hcomp
      obtain ⟨kC, hkC, -⟩ := hcls.2
      refine W.aast A.1 A.2.1 hce (fun q h => by cases h) (fun h => by cases h) k1 k2 rfl hkC ⟨fun q => inR_in hc.2 (Or.inl q), by rw [arrV_size]; exact inR_lt hc.2⟩ b1 (fun q h => by rw [b3] at h; cases h) (by rw [b2]; exact hkC) (by rw [b2]; exact va_assign hcls) rfl rfl hd fun H1 e1 z1 o1 => ?_
      refine row_set (σ' := wR σ a i.toNatClampNeg (some b)) (v := .ref (adr E b)) hv ht h1 h2 h3 h4 h5 rfl (fun _ _ _ => rfl) (fun _ _ _ => rfl) (fun b' j hb => if_neg (fun z => hb z.1)) ?_ (fun j hj => ?_) e1 z1 o1 k
      · rw [av_ref ht45, show gR (wR σ a i.toNatClampNeg (some b)) a i.toNatClampNeg = some b from if_pos ⟨rfl, rfl⟩]
        rfl
      · rw [av_ref ht45, av_ref ht45, show gR (wR σ a i.toNatClampNeg (some b)) a j = gR σ a j from if_neg (fun z => hj z.2)]
    · cases h
  · next i a r =>
    have hv : okV σ (.ref a) := w.1 _ (List.mem_cons_of_mem _ (List.mem_cons_of_mem _ List.mem_cons_self))
    split at h
    · next hc =>
      cases h
      intro ls H locs cells slots h1 h2 h3 h4 h5
      have ht : aty (a % 64) ≠ 0 := by omega
      obtain ⟨hvl, had, hce⟩ := rep_row h2 hv ht
      obtain ⟨hA, hRA⟩ := kn_arr A (t := aty (a % 64)) (by omega) (by omega)
      have hC : ∃ C, tyE (aty (a % 64)) = .object C := by
        rcases hc.1 with q | q
        · rw [q]; exact ⟨_, rfl⟩
        · rw [q]; exact ⟨_, rfl⟩
      obtain ⟨C, hC⟩ := hC
      rw [hC] at hA
      refine va_WaastN (C := C) A.1 A.2.1 hce (hA _ _) (fun h => by cases h) (arr_in hc.2) rfl rfl hd fun H1 e1 z1 o1 => ?_
      refine row_set (σ' := wR σ a i.toNatClampNeg none) (v := .null) hv ht h1 h2 h3 h4 h5 rfl (fun _ _ _ => rfl) (fun _ _ _ => rfl) (fun b' j hb => if_neg (fun z => hb z.1)) ?_ (fun j hj => ?_) e1 z1 o1 k
      · rw [av_ref hc.1, show gR (wR σ a i.toNatClampNeg none) a i.toNatClampNeg = none from if_pos ⟨rfl, rfl⟩]
        rfl
      · rw [av_ref hc.1, av_ref hc.1, show gR (wR σ a i.toNatClampNeg none) a j = gR σ a j from if_neg (fun z => hj z.2)]
    · cases h
  · cases h
end SndR
