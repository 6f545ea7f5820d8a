/-! what every step of the small machine keeps: references are to things that are there -/
def vld (σ : HP) (a : Nat) : Prop := a / 64 < hN σ ∧ hK σ (a / 64) = a % 64
def okR (σ : HP) (c : Nat) : Prop := (c % 64 = 16 ∧ c / 64 < 27) ∨ c = 18 ∨ (vld σ c ∧ c % 64 ≠ 16 ∧ c % 64 ≠ 18)
def okV (σ : HP) (v : Value) : Prop := match v with
  | .ref c => okR σ c
  | .int _ => True
  | .long _ => True
  | .null => True
  | _ => False
def wfH (σ : HP) : Prop := ∀ a j c, gR σ a j = some c → okR σ c
def Ext (σ σ' : HP) : Prop := hN σ ≤ hN σ' ∧ hS σ ≤ hS σ' ∧ hL σ' = hL σ ∧ (∀ i, i < hN σ → hK σ' i = hK σ i) ∧ (∀ j, gI σ' 18 j = gI σ 18 j)
def wfL (S : List Nat) (L : LV) (σ : HP) : Prop := ∀ i v, L[i]? = some (some v) → okV σ v ∧ (∀ x, v = .long x → S.contains i = true)
def WF (m : MM) (c : Cfg) : Prop := (∀ v ∈ c.2.2.1, okV c.2.2.2 v) ∧ wfL (zs m) c.2.1 c.2.2.2 ∧ wfH c.2.2.2 ∧ c.2.1.length = zl m
theorem Ext.rf (σ : HP) : Ext σ σ := ⟨Nat.le_refl _, Nat.le_refl _, rfl, fun _ _ => rfl, fun _ => rfl⟩
theorem Ext.trans {a b c : HP} (h : Ext a b) (k : Ext b c) : Ext a c :=
  ⟨Nat.le_trans h.1 k.1, Nat.le_trans h.2.1 k.2.1, k.2.2.1.trans h.2.2.1, fun i hi => (k.2.2.2.1 i (Nat.lt_of_lt_of_le hi h.1)).trans (h.2.2.2.1 i hi), fun j => (k.2.2.2.2 j).trans (h.2.2.2.2 j)⟩
theorem Ext.vld {σ σ' : HP} (h : Ext σ σ') {a : Nat} (v : vld σ a) : vld σ' a := ⟨Nat.lt_of_lt_of_le v.1 h.1, (h.2.2.2.1 _ v.1).trans v.2⟩
theorem Ext.okR {σ σ' : HP} (h : Ext σ σ') {a : Nat} (v : okR σ a) : okR σ' a := by
  rcases v with v | v | v
  · exact Or.inl v
  · exact Or.inr (Or.inl v)
  · exact Or.inr (Or.inr ⟨h.vld v.1, v.2⟩)
theorem Ext.okV {σ σ' : HP} (h : Ext σ σ') {v : Value} (k : okV σ v) : okV σ' v := by
  cases v with
  | ref c => exact h.okR k
  | _ => exact k
theorem Ext.wfL {σ σ' : HP} (h : Ext σ σ') {S : List Nat} {L : LV} (k : wfL S L σ) : wfL S L σ' := fun i v e => ⟨h.okV (k i v e).1, (k i v e).2⟩
theorem ok_i {σ : HP} (x : Int32) : okV σ (.int x) := trivial
theorem ok_l {σ : HP} (x : Int64) : okV σ (.long x) := trivial
theorem ok_n {σ : HP} : okV σ .null := trivial
theorem ok_rv {σ : HP} (h : wfH σ) (a j : Nat) : okV σ (rv (gR σ a j)) := by
  cases e : gR σ a j with
  | none => exact trivial
  | some c => exact h a j c e
/-- a step to the same thing with other values on the stack -/
theorem wf_st {m : MM} {pc pc' : Nat} {L : LV} {st st' : List Value} {σ : HP} (h : WF m (pc, L, st, σ)) (k : ∀ v ∈ st', okV σ v) : WF m (pc', L, st', σ) := ⟨k, h.2⟩
theorem wf_L {m : MM} {pc pc' i : Nat} {L : LV} {st st' : List Value} {σ : HP} {w : Option Value} (h : WF m (pc, L, st, σ)) (k : ∀ v ∈ st', okV σ v) (hw : ∀ v, w = some v → okV σ v ∧ (∀ x, v = .long x → (zs m).contains i = true)) : WF m (pc', L.set i w, st', σ) := by
  refine ⟨k, fun j v e => ?_, h.2.2.1, by rw [← h.2.2.2]; exact List.length_set ..⟩
  have e : (L.set i w)[j]? = some (some v) := e
  by_cases hj : i = j
  · subst hj
    rw [List.getElem?_set] at e
    simp only [if_true] at e
    split at e
    · exact hw v (Option.some.inj e)
    · cases e
  · rw [List.getElem?_set_ne hj] at e
    exact h.2.1 j v e
theorem wf_σ {m : MM} {pc pc' : Nat} {L : LV} {st st' : List Value} {σ σ' : HP} (h : WF m (pc, L, st, σ)) (x : Ext σ σ') (k : ∀ v ∈ st', okV σ' v) (w : wfH σ') : WF m (pc', L, st', σ') :=
  ⟨k, x.wfL h.2.1, w, h.2.2.2⟩
theorem wfH_wI {σ : HP} (h : wfH σ) (a j : Nat) (v : Int32) : wfH (wI σ a j v) := fun x y c e => h x y c e
theorem wfH_wJ {σ : HP} (h : wfH σ) (a j : Nat) (v : Int64) : wfH (wJ σ a j v) := fun x y c e => h x y c e
theorem wfH_cI {σ : HP} (h : wfH σ) (a p b q n : Nat) : wfH (cI σ a p b q n) := fun x y c e => h x y c e
theorem wfH_wR {σ : HP} (h : wfH σ) (a j : Nat) (v : Option Nat) (hv : ∀ c, v = some c → okR σ c) : wfH (wR σ a j v) := fun x y c e => by
  have e : (if x = a ∧ y = j then v else gR σ x y) = some c := e
  split at e
  · exact hv c e
  · exact h x y c e
theorem ext_wI {σ : HP} {a : Nat} (j : Nat) (v : Int32) (h : a ≠ 18) : Ext σ (wI σ a j v) := ⟨Nat.le_refl _, Nat.le_refl _, rfl, fun _ _ => rfl, fun y => by
  show (if 18 = a ∧ y = j then v else _) = _
  rw [if_neg (fun q => h q.1.symm)]; rfl⟩
theorem ext_cI {σ : HP} (a p : Nat) {b : Nat} (q n : Nat) (h : b ≠ 18) : Ext σ (cI σ a p b q n) := ⟨Nat.le_refl _, Nat.le_refl _, rfl, fun _ _ => rfl, fun y => by
  show (if 18 = b ∧ q ≤ y ∧ y < q + n then _ else _) = _
  rw [if_neg (fun z => h z.1.symm)]; rfl⟩
theorem ext_wJ {σ : HP} (a j : Nat) (v : Int64) : Ext σ (wJ σ a j v) := ⟨Nat.le_refl _, Nat.le_refl _, rfl, fun _ _ => rfl, fun _ => rfl⟩
theorem ext_wR {σ : HP} (a j : Nat) (v : Option Nat) : Ext σ (wR σ a j v) := ⟨Nat.le_refl _, Nat.le_refl _, rfl, fun _ _ => rfl, fun _ => rfl⟩
theorem ext_hA {σ : HP} (k n : Nat) (hk : k ≠ 18) (hk2 : k < 64) : Ext σ (hA σ k n) := ⟨Nat.le_succ _, Nat.le_add_right _ _, rfl, fun i hi => by
  show (if i = σ.1.1 then k else _) = _
  rw [if_neg (show ¬ i = σ.1.1 from Nat.ne_of_lt hi)]; rfl, fun j => by
  show (if 18 = k + 64 * σ.1.1 then 0 else _) = _
  rw [if_neg (by omega)]; rfl⟩
theorem wfH_hA {σ : HP} (h : wfH σ) (k n : Nat) (hk : k ≠ 18) (hk2 : k < 64) : wfH (hA σ k n) := fun x y c e => by
  have e : (if x = k + 64 * σ.1.1 then none else gR σ x y) = some c := e
  split at e
  · cases e
  · exact (ext_hA k n hk hk2).okR (h x y c e)
theorem ok_hA {σ : HP} (k n : Nat) (hk : k ≠ 18) (hk3 : k ≠ 16) (hk2 : k < 64) : okV (hA σ k n) (.ref (k + 64 * hN σ)) := by
  have e1 : (k + 64 * hN σ) / 64 = hN σ := by omega
  have e2 : (k + 64 * hN σ) % 64 = k := by omega
  refine Or.inr (Or.inr ⟨⟨?_, ?_⟩, by omega, by omega⟩)
  · rw [e1]; exact Nat.lt_succ_self _
  · rw [e1, e2]
    show (if hN σ = σ.1.1 then k else _) = k
    exact if_pos rfl
def okOut (r : Res) : Prop := match r.1 with
  | .inl (some v) => okV r.2 v
  | _ => True
/-- what a callee keeps -/
def CP (C : CF) : Prop := ∀ (m : MM) (a : List Value) (σ : HP) (r : Res), C m a σ = some r → (∀ v ∈ a, okV σ v) → wfH σ → Ext σ r.2 ∧ wfH r.2 ∧ okOut r
/-- what a step keeps -/
def Kp (m : MM) (c : Cfg) (s : SR) : Prop := WF m c → (∀ c', s = some (.inr c') → WF m c' ∧ Ext c.2.2.2 c'.2.2.2) ∧ (∀ r, s = some (.inl r) → Ext c.2.2.2 r.2 ∧ wfH r.2 ∧ okOut r)
theorem kp_no {m : MM} {c : Cfg} : Kp m c none := fun _ => ⟨fun _ e => by (cases e), fun _ e => by (cases e)⟩
theorem kp_go {m : MM} {pc pc' : Nat} {L L' : LV} {st st' : List Value} {σ σ' : HP} (h : WF m (pc, L, st, σ) → WF m (pc', L', st', σ') ∧ Ext σ σ') : Kp m (pc, L, st, σ) (go pc' L' st' σ') := fun w => ⟨fun c' e => by
  cases e; exact h w, fun _ e => by (cases e)⟩
theorem kp_goS {m : MM} {pc pc' : Nat} {L : LV} {st st' : List Value} {σ : HP} (h : WF m (pc, L, st, σ) → ∀ v ∈ st', okV σ v) : Kp m (pc, L, st, σ) (go pc' L st' σ) := kp_go fun w => ⟨wf_st w (h w), Ext.rf _⟩
theorem kp_jmp {m : MM} {pc pc' : Nat} {off : Int} {L : LV} {st st' : List Value} {σ : HP} (h : WF m (pc, L, st, σ) → ∀ v ∈ st', okV σ v) : Kp m (pc, L, st, σ) (jmp pc' off L st' σ) := by
  unfold jmp
  split
  · exact kp_goS h
  · exact kp_no
theorem kp_gd {m : MM} {c : Cfg} {n k : Nat} {s : SR} (h : Kp m c s) : Kp m c (gd n k s) := by
  unfold gd
  split
  · exact h
  · exact kp_no

theorem ok_tl {m : MM} {pc : Nat} {L : LV} {x : Value} {r : List Value} {σ : HP} (h : WF m (pc, L, x :: r, σ)) : ∀ v ∈ r, okV σ v := fun v k => h.1 v (List.mem_cons_of_mem _ k)
theorem ok_hd {m : MM} {pc : Nat} {L : LV} {x : Value} {r : List Value} {σ : HP} (h : WF m (pc, L, x :: r, σ)) : okV σ x := h.1 x List.mem_cons_self
theorem ok_cons {σ : HP} {x : Value} {r : List Value} (h : okV σ x) (k : ∀ v ∈ r, okV σ v) : ∀ v ∈ x :: r, okV σ v := fun v q => by
  rcases List.mem_cons.mp q with rfl | q
  · exact h
  · exact k v q
theorem ok_ld {m : MM} {pc i : Nat} {L : LV} {st : List Value} {σ : HP} {v : Value} (h : WF m (pc, L, st, σ)) (e : ld L i = some v) : okV σ v := by
  unfold ld at e
  split at e
  · next w hw => cases e; exact (h.2.1 i _ hw).1
  · cases e
theorem kp_loadI (m : MM) (i n pc : Nat) (L : LV) (st : List Value) (σ : HP) : Kp m (pc, L, st, σ) (zLoadI i n pc L st σ) := by
  unfold zLoadI
  split
  · exact kp_goS fun w => ok_cons (ok_i _) w.1
  · exact kp_no
theorem kp_loadL (m : MM) (i n pc : Nat) (L : LV) (st : List Value) (σ : HP) : Kp m (pc, L, st, σ) (zLoadL i n pc L st σ) := by
  unfold zLoadL
  split
  · exact kp_goS fun w => ok_cons (ok_l _) w.1
  · exact kp_no
theorem kp_loadA (m : MM) (i n pc : Nat) (L : LV) (st : List Value) (σ : HP) : Kp m (pc, L, st, σ) (zLoadA i n pc L st σ) := by
  unfold zLoadA
  split
  · next e => exact kp_goS fun w => ok_cons (ok_ld w e) w.1
  · exact kp_goS fun w => ok_cons ok_n w.1
  · exact kp_no
theorem kp_storeI (m : MM) (i n pc : Nat) (L : LV) (st : List Value) (σ : HP) : Kp m (pc, L, st, σ) (zStoreI (zs m) i n pc L st σ) := by
  unfold zStoreI
  split
  · split
    · exact kp_go fun w => ⟨wf_L w (ok_tl w) (fun v e => by cases e; exact ⟨ok_i _, fun x q => by cases q⟩), Ext.rf _⟩
    · exact kp_no
  · exact kp_no
theorem kp_storeA (m : MM) (i n pc : Nat) (L : LV) (st : List Value) (σ : HP) : Kp m (pc, L, st, σ) (zStoreA (zs m) i n pc L st σ) := by
  unfold zStoreA
  split
  · split
    · exact kp_go fun w => ⟨wf_L w (ok_tl w) (fun v e => by cases e; exact ⟨ok_hd w, fun x q => by cases q⟩), Ext.rf _⟩
    · exact kp_no
  · split
    · exact kp_go fun w => ⟨wf_L w (ok_tl w) (fun v e => by cases e; exact ⟨ok_n, fun x q => by cases q⟩), Ext.rf _⟩
    · exact kp_no
  · exact kp_no
theorem kp_storeL (m : MM) (i n pc : Nat) (L : LV) (st : List Value) (σ : HP) : Kp m (pc, L, st, σ) (zStoreL (zs m) i n pc L st σ) := by
  unfold zStoreL
  split
  · split
    · next h => exact kp_go fun w => ⟨wf_L (pc := pc) (st := []) (wf_L (pc' := pc) (st' := []) w (fun _ h => by cases h) (fun v e => by cases e; exact ⟨ok_l _, fun _ _ => h.2.2⟩)) (ok_tl w) (fun v e => by cases e), Ext.rf _⟩
    · exact kp_no
  · exact kp_no
theorem kp_inc (m : MM) (i : Nat) (k : Int) (pc : Nat) (L : LV) (st : List Value) (σ : HP) : Kp m (pc, L, st, σ) (zInc (zs m) i k pc L st σ) := by
  unfold zInc
  split
  · split
    · exact kp_go fun w => ⟨wf_L w w.1 (fun v e => by cases e; exact ⟨ok_i _, fun x q => by cases q⟩), Ext.rf _⟩
    · exact kp_no
  · exact kp_no
theorem kp_bin (m : MM) (f : Int32 → Int32 → Int32) (pc : Nat) (L : LV) (st : List Value) (σ : HP) : Kp m (pc, L, st, σ) (zBin f pc L st σ) := by
  unfold zBin
  split
  · exact kp_goS fun w => ok_cons (ok_i _) (fun v k => w.1 v (List.mem_cons_of_mem _ (List.mem_cons_of_mem _ k)))
  · exact kp_no
theorem kp_div (m : MM) (f : Int32 → Int32 → Int32) (pc : Nat) (L : LV) (st : List Value) (σ : HP) : Kp m (pc, L, st, σ) (zDiv f pc L st σ) := by
  unfold zDiv
  split
  · split
    · exact kp_no
    · exact kp_goS fun w => ok_cons (ok_i _) (fun v k => w.1 v (List.mem_cons_of_mem _ (List.mem_cons_of_mem _ k)))
  · exact kp_no
theorem kp_un (m : MM) (f : Int32 → Int32) (pc : Nat) (L : LV) (st : List Value) (σ : HP) : Kp m (pc, L, st, σ) (zUn f pc L st σ) := by
  unfold zUn
  split
  · exact kp_goS fun w => ok_cons (ok_i _) (ok_tl w)
  · exact kp_no
theorem kp_binL (m : MM) (f : Int64 → Int64 → Int64) (pc : Nat) (L : LV) (st : List Value) (σ : HP) : Kp m (pc, L, st, σ) (zBinL f pc L st σ) := by
  unfold zBinL
  split
  · exact kp_goS fun w => ok_cons (ok_l _) (fun v k => w.1 v (List.mem_cons_of_mem _ (List.mem_cons_of_mem _ k)))
  · exact kp_no
theorem kp_divL (m : MM) (f : Int64 → Int64 → Int64) (pc : Nat) (L : LV) (st : List Value) (σ : HP) : Kp m (pc, L, st, σ) (zDivL f pc L st σ) := by
  unfold zDivL
  split
  · split
    · exact kp_no
    · exact kp_goS fun w => ok_cons (ok_l _) (fun v k => w.1 v (List.mem_cons_of_mem _ (List.mem_cons_of_mem _ k)))
  · exact kp_no
theorem kp_shlL (m : MM) (pc : Nat) (L : LV) (st : List Value) (σ : HP) : Kp m (pc, L, st, σ) (zShlL pc L st σ) := by
  unfold zShlL
  split
  · exact kp_goS fun w => ok_cons (ok_l _) (fun v k => w.1 v (List.mem_cons_of_mem _ (List.mem_cons_of_mem _ k)))
  · exact kp_no
theorem kp_i2l (m : MM) (pc : Nat) (L : LV) (st : List Value) (σ : HP) : Kp m (pc, L, st, σ) (zI2l pc L st σ) := by
  unfold zI2l
  split
  · exact kp_goS fun w => ok_cons (ok_l _) (ok_tl w)
  · exact kp_no
theorem kp_lcmp (m : MM) (pc : Nat) (L : LV) (st : List Value) (σ : HP) : Kp m (pc, L, st, σ) (zLcmp pc L st σ) := by
  unfold zLcmp
  split
  · exact kp_goS fun w => ok_cons (ok_i _) (fun v k => w.1 v (List.mem_cons_of_mem _ (List.mem_cons_of_mem _ k)))
  · exact kp_no
theorem kp_dup (m : MM) (pc : Nat) (L : LV) (st : List Value) (σ : HP) : Kp m (pc, L, st, σ) (zDup pc L st σ) := by
  unfold zDup
  split
  · exact kp_goS fun w => ok_cons (ok_i _) w.1
  · exact kp_goS fun w => ok_cons (ok_hd w) w.1
  · exact kp_no
theorem kp_dup2 (m : MM) (pc : Nat) (L : LV) (st : List Value) (σ : HP) : Kp m (pc, L, st, σ) (zDup2 pc L st σ) := by
  unfold zDup2
  split
  · exact kp_goS fun w => ok_cons (ok_i _) (ok_cons (w.1 _ (List.mem_cons_of_mem _ List.mem_cons_self)) w.1)
  · exact kp_no
theorem kp_pop (m : MM) (pc : Nat) (L : LV) (st : List Value) (σ : HP) : Kp m (pc, L, st, σ) (zPop pc L st σ) := by
  unfold zPop
  split
  · exact kp_goS fun w => ok_tl w
  · exact kp_goS fun w => ok_tl w
  · exact kp_no
theorem kp_br (m : MM) (c : Bool) (pc : Nat) (off : Int) (L : LV) (st st' : List Value) (σ : HP) (h : WF m (pc, L, st, σ) → ∀ v ∈ st', okV σ v) : Kp m (pc, L, st, σ) (br c pc off L st' σ) := by
  unfold br
  split
  · split
    · exact kp_goS h
    · exact kp_goS h
  · exact kp_no
theorem kp_cmp (m : MM) (f : Int32 → Int32 → Bool) (off : Int) (pc : Nat) (L : LV) (st : List Value) (σ : HP) : Kp m (pc, L, st, σ) (zCmp f off pc L st σ) := by
  unfold zCmp
  split
  · exact kp_br _ _ _ _ _ _ _ _ fun w => (fun v k => w.1 v (List.mem_cons_of_mem _ (List.mem_cons_of_mem _ k)))
  · exact kp_no
theorem kp_if (m : MM) (f : Int32 → Bool) (off : Int) (pc : Nat) (L : LV) (st : List Value) (σ : HP) : Kp m (pc, L, st, σ) (zIf f off pc L st σ) := by
  unfold zIf
  split
  · exact kp_br _ _ _ _ _ _ _ _ fun w => ok_tl w
  · exact kp_no
theorem kp_ifnull (m : MM) (off : Int) (pc : Nat) (L : LV) (st : List Value) (σ : HP) : Kp m (pc, L, st, σ) (zIfnull off pc L st σ) := by
  unfold zIfnull
  split
  · exact kp_goS fun w => ok_tl w
  · exact kp_jmp fun w => ok_tl w
  · exact kp_no
theorem kp_table (m : MM) (d lo hi : Int) (offs : Array Int) (pc : Nat) (L : LV) (st : List Value) (σ : HP) : Kp m (pc, L, st, σ) (zTable d lo hi offs pc L st σ) := by
  unfold zTable
  split
  · split
    · exact kp_jmp fun w => ok_tl w
    · split
      · exact kp_jmp fun w => ok_tl w
      · exact kp_no
  · exact kp_no
theorem kp_look (m : MM) (d : Int) (ps : Array (Int × Int)) (pc : Nat) (L : LV) (st : List Value) (σ : HP) : Kp m (pc, L, st, σ) (zLook d ps pc L st σ) := by
  unfold zLook
  split
  · split
    · exact kp_jmp fun w => ok_tl w
    · exact kp_no
  · exact kp_no
theorem kp_get (m : MM) (o idx pc : Nat) (L : LV) (st : List Value) (σ : HP) : Kp m (pc, L, st, σ) (zGet o idx pc L st σ) := by
  unfold zGet
  split
  · split
    · split
      · split
        · exact kp_goS fun w => ok_cons (ok_i _) (ok_tl w)
        · exact kp_goS fun w => ok_cons (ok_rv w.2.2.1 _ _) (ok_tl w)
      · exact kp_no
    · exact kp_no
  · exact kp_no
theorem fl_lt : ∀ o, o < 17 → ∀ e ∈ flL o, e.2.1 < 13 ∧ e.2.2 < zN e.2.1 := by decide +kernel
theorem flL_big {o : Nat} (h : 17 ≤ o) : flL o = [] := by
  unfold flL
  split <;> first | omega | rfl
theorem look_mem {α : Type} {l : List (Nat × α)} {i : Nat} {v : α} (h : l.lookup i = some v) : (i, v) ∈ l := by
  induction l with
  | nil => cases h
  | cons q r ih =>
    obtain ⟨a, b⟩ := q
    rw [List.lookup_cons] at h
    cases e : i == a with
    | true =>
      rw [e] at h
      cases h
      rw [beq_iff_eq.mp e]
      exact List.mem_cons_self
    | false =>
      rw [e] at h
      exact List.mem_cons_of_mem _ (ih h)
theorem fl_in {o idx ci k : Nat} (h : fl o idx = some (ci, k)) : ci < 13 ∧ k < zN ci := by
  have hm := look_mem h
  rcases Nat.lt_or_ge o 17 with q | q
  · exact fl_lt o q _ hm
  · rw [flL_big q] at hm; cases hm

theorem ok_2 {m : MM} {pc : Nat} {L : LV} {x y : Value} {r : List Value} {σ : HP} (h : WF m (pc, L, x :: y :: r, σ)) : ∀ v ∈ r, okV σ v := fun v k => h.1 v (List.mem_cons_of_mem _ (List.mem_cons_of_mem _ k))
theorem ok_3 {m : MM} {pc : Nat} {L : LV} {x y z : Value} {r : List Value} {σ : HP} (h : WF m (pc, L, x :: y :: z :: r, σ)) : ∀ v ∈ r, okV σ v := fun v k => h.1 v (List.mem_cons_of_mem _ (List.mem_cons_of_mem _ (List.mem_cons_of_mem _ k)))
theorem kp_put (m : MM) (idx pc : Nat) (L : LV) (st : List Value) (σ : HP) : Kp m (pc, L, st, σ) (zPut m idx pc L st σ) := by
  unfold zPut
  split
  · exact kp_no
  · next ci k hf =>
    have hc := (fl_in hf).1
    split
    · exact kp_no
    · split
      · split
        · next a r h =>
          have ha : a ≠ 18 := fun q => by
            have h1 : @Eq Nat ((a : Nat) % 64) ci := h.1
            rw [show (a : Nat) = 18 from q] at h1
            exact absurd hc (by rw [← h1]; decide)
          exact kp_go fun w => ⟨wf_σ w (ext_wI _ _ ha) (fun v q => (ext_wI _ _ ha).okV (ok_2 w v q)) (wfH_wI w.2.2.1 _ _ _), ext_wI _ _ ha⟩
        · exact kp_no
      · split
        · next h => exact kp_go fun w => ⟨wf_σ w (ext_wR _ _ _) (fun v q => (ext_wR _ _ _).okV (ok_2 w v q)) (wfH_wR w.2.2.1 _ _ _ (fun c e => by cases e; exact ok_hd w)), ext_wR _ _ _⟩
        · exact kp_no
      · split
        · next h => exact kp_go fun w => ⟨wf_σ w (ext_wR _ _ _) (fun v q => (ext_wR _ _ _).okV (ok_2 w v q)) (wfH_wR w.2.2.1 _ _ _ (fun c e => by cases e)), ext_wR _ _ _⟩
        · exact kp_no
      · exact kp_no
theorem arrK_in {e n k : Nat} (h : arrK e n = some k) : 20 ≤ k ∧ k < 63 ∧ aty k = e ∧ alen k = n := by
  unfold arrK at h
  cases hf : zAr.findIdx? (fun q => q == (e, n)) with
  | none => rw [hf] at h; cases h
  | some i =>
    rw [hf] at h
    have h : 20 + i = k := Option.some.inj h
    subst h
    obtain ⟨hi, hp, -⟩ := List.findIdx?_eq_some_iff_getElem.mp hf
    have e1 : zAr[i] = (e, n) := beq_iff_eq.mp hp
    have hl : i < 19 := hi
    have e2 : (zAr.getD (20 + i - 20) (0, 0)) = (e, n) := by
      rw [show 20 + i - 20 = i by omega, List.getD_eq_getElem?_getD, List.getElem?_eq_getElem hi, e1]; rfl
    refine ⟨Nat.le_add_right 20 i, by omega, ?_, ?_⟩
    · unfold aty
      rw [if_pos (Nat.le_add_right 20 i), e2]
    · unfold alen
      rw [e2]
theorem kp_arr (m : MM) (e pc n : Nat) (L : LV) (st : List Value) (σ : HP) : Kp m (pc, L, st, σ) (zArr e pc n L st σ) := by
  unfold zArr
  split
  · split
    · exact kp_no
    · split
      · next k hk =>
        obtain ⟨h1, h2, -⟩ := arrK_in hk
        have hx := ext_hA (σ := σ) k (alen k) (by omega) (by omega)
        exact kp_go fun w => ⟨wf_σ w hx (ok_cons (ok_hA _ _ (by omega) (by omega) (by omega)) (fun v q => hx.okV (ok_tl w v q))) (wfH_hA w.2.2.1 _ _ (by omega) (by omega)), hx⟩
      · exact kp_no
  · exact kp_no
theorem kp_alen (m : MM) (pc : Nat) (L : LV) (st : List Value) (σ : HP) : Kp m (pc, L, st, σ) (zAlen pc L st σ) := by
  unfold zAlen
  split
  · split
    · exact kp_goS fun w => ok_cons (ok_i _) (ok_tl w)
    · split
      · exact kp_goS fun w => ok_cons (ok_i _) (ok_tl w)
      · exact kp_no
  · exact kp_no
theorem kp_iald (m : MM) (pc : Nat) (L : LV) (st : List Value) (σ : HP) : Kp m (pc, L, st, σ) (zIald pc L st σ) := by
  unfold zIald
  split
  · split
    · split
      · exact kp_goS fun w => ok_cons (ok_i _) (ok_2 w)
      · exact kp_no
    · split
      · exact kp_goS fun w => ok_cons (ok_i _) (ok_2 w)
      · exact kp_no
  · exact kp_no
theorem kp_bald (m : MM) (pc : Nat) (L : LV) (st : List Value) (σ : HP) : Kp m (pc, L, st, σ) (zBald pc L st σ) := by
  unfold zBald
  split
  · split
    · exact kp_goS fun w => ok_cons (ok_i _) (ok_2 w)
    · exact kp_no
  · exact kp_no
theorem kp_lald (m : MM) (pc : Nat) (L : LV) (st : List Value) (σ : HP) : Kp m (pc, L, st, σ) (zLald pc L st σ) := by
  unfold zLald
  split
  · split
    · exact kp_goS fun w => ok_cons (ok_l _) (ok_2 w)
    · exact kp_no
  · exact kp_no
theorem kp_aald (m : MM) (pc : Nat) (L : LV) (st : List Value) (σ : HP) : Kp m (pc, L, st, σ) (zAald pc L st σ) := by
  unfold zAald
  split
  · split
    · exact kp_goS fun w => ok_cons (ok_rv w.2.2.1 _ _) (ok_2 w)
    · exact kp_no
  · exact kp_no
theorem aty18 : aty 18 = 0 := by decide +kernel
theorem kp_iast (m : MM) (pc : Nat) (L : LV) (st : List Value) (σ : HP) : Kp m (pc, L, st, σ) (zIast pc L st σ) := by
  unfold zIast
  split
  · next a _ =>
    split
    · next h =>
      have ha : a ≠ 18 := fun q => by
        rw [q] at h
        exact absurd h.1 (by decide +kernel)
      exact kp_go fun w => ⟨wf_σ w (ext_wI _ _ ha) (fun v q => (ext_wI _ _ ha).okV (ok_3 w v q)) (wfH_wI w.2.2.1 _ _ _), ext_wI _ _ ha⟩
    · exact kp_no
  · exact kp_no
theorem kp_bast (m : MM) (pc : Nat) (L : LV) (st : List Value) (σ : HP) : Kp m (pc, L, st, σ) (zBast pc L st σ) := by
  unfold zBast
  split
  · next a _ =>
    split
    · next h =>
      have ha : a ≠ 18 := fun q => by
        rw [q] at h
        exact absurd h.1 (by decide +kernel)
      exact kp_go fun w => ⟨wf_σ w (ext_wI _ _ ha) (fun v q => (ext_wI _ _ ha).okV (ok_3 w v q)) (wfH_wI w.2.2.1 _ _ _), ext_wI _ _ ha⟩
    · exact kp_no
  · exact kp_no
theorem kp_last (m : MM) (pc : Nat) (L : LV) (st : List Value) (σ : HP) : Kp m (pc, L, st, σ) (zLast pc L st σ) := by
  unfold zLast
  split
  · split
    · exact kp_go fun w => ⟨wf_σ w (ext_wJ _ _ _) (fun v q => (ext_wJ _ _ _).okV (ok_3 w v q)) (wfH_wJ w.2.2.1 _ _ _), ext_wJ _ _ _⟩
    · exact kp_no
  · exact kp_no
theorem kp_aast (m : MM) (pc : Nat) (L : LV) (st : List Value) (σ : HP) : Kp m (pc, L, st, σ) (zAast pc L st σ) := by
  unfold zAast
  split
  · split
    · exact kp_go fun w => ⟨wf_σ w (ext_wR _ _ _) (fun v q => (ext_wR _ _ _).okV (ok_3 w v q)) (wfH_wR w.2.2.1 _ _ _ (fun c e => by cases e; exact ok_hd w)), ext_wR _ _ _⟩
    · exact kp_no
  · split
    · exact kp_go fun w => ⟨wf_σ w (ext_wR _ _ _) (fun v q => (ext_wR _ _ _).okV (ok_3 w v q)) (wfH_wR w.2.2.1 _ _ _ (fun c e => by cases e)), ext_wR _ _ _⟩
    · exact kp_no
  · exact kp_no
theorem kl_lt : ∀ o, o < 17 → ∀ e ∈ klL o, e.2 < 13 := by decide +kernel
theorem klL_big {o : Nat} (h : 17 ≤ o) : klL o = [] := by
  unfold klL
  split <;> first | omega | rfl
theorem kl_in {o idx ci : Nat} (h : kl o idx = some ci) : ci < 13 := by
  have hm := look_mem h
  rcases Nat.lt_or_ge o 17 with q | q
  · exact kl_lt o q _ hm
  · rw [klL_big q] at hm; cases hm
theorem kp_new (d : Nat) (m : MM) (idx pc : Nat) (L : LV) (st : List Value) (σ : HP) : Kp m (pc, L, st, σ) (zNew d m idx pc L st σ) := by
  unfold zNew
  split
  · next ci hk =>
    have hc := kl_in hk
    have hx := ext_hA (σ := σ) ci (zN ci) (by omega) (by omega)
    exact kp_go fun w => ⟨wf_σ w hx (ok_cons (ok_hA _ _ (by omega) (by omega) (by omega)) (fun v q => hx.okV (w.1 v q))) (wfH_hA w.2.2.1 _ _ (by omega) (by omega)), hx⟩
  · split
    · split
      · refine fun w => ⟨fun _ e => by (cases e), fun r e => ?_⟩
        cases e
        exact ⟨ext_hA 63 6 (by omega) (by omega), wfH_hA w.2.2.1 _ _ (by omega) (by omega), trivial⟩
      · exact kp_no
    · exact kp_no
theorem kp_call {C : CF} (hC : CP C) (m m' : MM) (pc : Nat) (L : LV) (st : List Value) (σ : HP) : Kp m (pc, L, st, σ) (zCall C m m' pc L st σ) := by
  unfold zCall
  split
  · intro w
    have hra : ∀ v ∈ (st.take (zn m')).reverse, okV σ v := fun v q => w.1 v (List.mem_of_mem_take (List.mem_reverse.mp q))
    have hrr : ∀ v ∈ st.drop (zn m'), okV σ v := fun v q => w.1 v (List.mem_of_mem_drop q)
    cases hc : C m' (st.take (zn m')).reverse σ with
    | none => exact ⟨fun _ e => by (cases e), fun _ e => by (cases e)⟩
    | some r =>
      obtain ⟨hx, hw, ho⟩ := hC m' _ σ r hc hra w.2.2.1
      obtain ⟨o, σ'⟩ := r
      cases o with
      | inl v =>
        refine ⟨fun c' e => ?_, fun r e => by (cases e)⟩
        cases e
        refine ⟨wf_σ w hx ?_ hw, hx⟩
        cases v with
        | none => exact fun v q => hx.okV (hrr v q)
        | some u => exact ok_cons ho (fun v q => hx.okV (hrr v q))
      | inr x =>
        unfold zBack
        dsimp only
        split
        · refine ⟨fun _ e => by (cases e), fun r e => ?_⟩
          cases e
          exact ⟨hx, hw, trivial⟩
        · split
          · split
            · refine ⟨fun c' e => ?_, fun r e => by (cases e)⟩
              cases e
              exact ⟨wf_L (pc := pc) (st := []) (wf_σ (pc' := pc) (st' := []) w hx (fun _ q => by cases q) hw) (fun _ q => by cases q) (fun v e => by cases e), hx⟩
            · exact ⟨fun _ e => by (cases e), fun _ e => by (cases e)⟩
          · exact ⟨fun _ e => by (cases e), fun _ e => by (cases e)⟩
  · exact kp_no
theorem kp_callN {C : CF} (hC : CP C) (m m' : MM) (pc : Nat) (L : LV) (st : List Value) (σ : HP) : Kp m (pc, L, st, σ) (zCallN C m' pc L st σ) := by
  unfold zCallN
  split
  · intro w
    have hra : ∀ v ∈ (st.take (zn m')).reverse, okV σ v := fun v q => w.1 v (List.mem_of_mem_take (List.mem_reverse.mp q))
    have hrr : ∀ v ∈ st.drop (zn m'), okV σ v := fun v q => w.1 v (List.mem_of_mem_drop q)
    cases hc : C m' (st.take (zn m')).reverse σ with
    | none => exact ⟨fun _ e => by (cases e), fun _ e => by (cases e)⟩
    | some r =>
      obtain ⟨hx, hw, ho⟩ := hC m' _ σ r hc hra w.2.2.1
      obtain ⟨o, σ'⟩ := r
      cases o with
      | inl v =>
        refine ⟨fun c' e => ?_, fun r e => by (cases e)⟩
        cases e
        refine ⟨wf_σ w hx ?_ hw, hx⟩
        cases v with
        | none => exact fun v q => hx.okV (hrr v q)
        | some u => exact ok_cons ho (fun v q => hx.okV (hrr v q))
      | inr x => exact ⟨fun _ e => by (cases e), fun _ e => by (cases e)⟩
  · exact kp_no
theorem kp_virt {C : CF} (hC : CP C) (d : Nat) (m : MM) (idx pc : Nat) (L : LV) (st : List Value) (σ : HP) : Kp m (pc, L, st, σ) (zVirt C d m idx pc L st σ) := by
  unfold zVirt
  split
  · split
    · split
      · exact kp_call hC _ _ _ _ _ _
      · exact kp_no
    · exact kp_no
  · split
    · split
      · exact kp_goS fun w => ok_cons (ok_i _) (ok_tl w)
      · exact kp_no
    · exact kp_no
  · split
    · split
      · exact kp_goS fun w => ok_cons (ok_i _) (ok_2 w)
      · exact kp_no
    · exact kp_no
  · exact kp_no
theorem kp_spec {C : CF} (hC : CP C) (d : Nat) (m : MM) (idx pc : Nat) (L : LV) (st : List Value) (σ : HP) : Kp m (pc, L, st, σ) (zSpec C d m idx pc L st σ) := by
  unfold zSpec
  split
  · split
    · split
      · exact kp_callN hC _ _ _ _ _ _
      · exact kp_no
    · exact kp_no
  · split
    · split
      · exact kp_callN hC _ _ _ _ _ _
      · exact kp_no
    · exact kp_no
  · split
    · split
      · exact kp_goS fun w => ok_tl w
      · exact kp_no
    · exact kp_no
  · exact kp_no
theorem kp_stat {C : CF} (hC : CP C) (d : Nat) (m : MM) (idx pc : Nat) (L : LV) (st : List Value) (σ : HP) : Kp m (pc, L, st, σ) (zStat C d m idx pc L st σ) := by
  unfold zStat
  split
  · exact kp_callN hC _ _ _ _ _ _
  · exact kp_callN hC _ _ _ _ _ _
  · exact kp_callN hC _ _ _ _ _ _
  · split
    · next n q b p a r =>
      split
      · next h =>
        have hb : b ≠ 18 := fun z => by
          rw [z] at h
          exact absurd h.2.2.1 (by decide +kernel)
        refine kp_go fun w => ⟨wf_σ w (ext_cI _ _ _ _ hb) (fun v q => (ext_cI _ _ _ _ hb).okV (w.1 v ?_)) (wfH_cI w.2.2.1 _ _ _ _ _), ext_cI _ _ _ _ hb⟩
        simp only [List.mem_cons]
        exact Or.inr (Or.inr (Or.inr (Or.inr (Or.inr q))))
      · exact kp_no
    · exact kp_no
  · split
    · split
      · exact kp_goS fun w => ok_cons (ok_i _) (ok_2 w)
      · exact kp_no
    · exact kp_no
  · split
    · split
      · exact kp_goS fun w => ok_cons (ok_i _) (ok_2 w)
      · exact kp_no
    · exact kp_no
  · split
    · split
      · exact kp_goS fun w => ok_cons (ok_i _) (ok_tl w)
      · exact kp_no
    · exact kp_no
  · exact kp_no
theorem sl_lt : ∀ o, o < 17 → ∀ e ∈ slL o, e.2 < 27 := by decide +kernel
theorem slL_big {o : Nat} (h : 17 ≤ o) : slL o = [] := by
  unfold slL
  split <;> first | omega | rfl
theorem sl_in {o idx i : Nat} (h : sl o idx = some i) : i < 27 := by
  have hm := look_mem h
  rcases Nat.lt_or_ge o 17 with q | q
  · exact sl_lt o q _ hm
  · rw [slL_big q] at hm; cases hm
theorem kp_ldc (m : MM) (o idx n pc : Nat) (L : LV) (st : List Value) (σ : HP) : Kp m (pc, L, st, σ) (zLdc o idx n pc L st σ) := by
  unfold zLdc
  split
  · exact kp_goS fun w => ok_cons (ok_i _) w.1
  · split
    · next i h =>
      have hi := sl_in h
      exact kp_goS fun w => ok_cons (Or.inl ⟨by omega, by omega⟩) w.1
    · exact kp_no
theorem kp_ldc2 (m : MM) (o idx pc : Nat) (L : LV) (st : List Value) (σ : HP) : Kp m (pc, L, st, σ) (zLdc2 o idx pc L st σ) := by
  unfold zLdc2
  split
  · exact kp_goS fun w => ok_cons (ok_l _) w.1
  · exact kp_no
theorem kp_iret (m : MM) (pc : Nat) (L : LV) (st : List Value) (σ : HP) : Kp m (pc, L, st, σ) (zIret m st σ) := by
  unfold zIret
  split
  · split
    · split
      · refine fun w => ⟨fun _ e => by (cases e), fun r e => ?_⟩
        cases e
        exact ⟨Ext.rf _, w.2.2.1, trivial⟩
      · exact kp_no
    · exact kp_no
  · exact kp_no
theorem kp_lret (m : MM) (pc : Nat) (L : LV) (st : List Value) (σ : HP) : Kp m (pc, L, st, σ) (zLret m st σ) := by
  unfold zLret
  split
  · split
    · refine fun w => ⟨fun _ e => by (cases e), fun r e => ?_⟩
      cases e
      exact ⟨Ext.rf _, w.2.2.1, trivial⟩
    · exact kp_no
  · exact kp_no
theorem kp_vret (m : MM) (pc : Nat) (L : LV) (st : List Value) (σ : HP) : Kp m (pc, L, st, σ) (zVret m st σ) := by
  unfold zVret
  split
  · split
    · refine fun w => ⟨fun _ e => by (cases e), fun r e => ?_⟩
      cases e
      exact ⟨Ext.rf _, w.2.2.1, trivial⟩
    · exact kp_no
  · exact kp_no
theorem kp_step {C : CF} (hC : CP C) (d : Nat) (m : MM) (c : Cfg) : Kp m c (step1 C d m c) := by
  obtain ⟨pc, L, st, σ⟩ := c
  unfold step1
  split
  · next i n hd =>
    dsimp only
    unfold stepI
    split
    all_goals first
      | exact kp_no
      | apply kp_table
      | apply kp_look
      | refine kp_gd ?_
    all_goals first
      | apply kp_loadA
      | apply kp_loadI
      | apply kp_loadL
      | apply kp_storeA
      | apply kp_storeI
      | apply kp_storeL
      | apply kp_inc
      | apply kp_bin
      | apply kp_div
      | apply kp_un
      | apply kp_binL
      | apply kp_divL
      | apply kp_shlL
      | apply kp_i2l
      | apply kp_lcmp
      | apply kp_dup
      | apply kp_dup2
      | apply kp_pop
      | apply kp_cmp
      | apply kp_if
      | apply kp_ifnull
      | apply kp_ldc
      | apply kp_ldc2
      | apply kp_get
      | apply kp_put
      | apply kp_new
      | apply kp_arr
      | apply kp_alen
      | apply kp_iald
      | apply kp_iast
      | apply kp_bald
      | apply kp_bast
      | apply kp_lald
      | apply kp_last
      | apply kp_aald
      | apply kp_aast
      | apply kp_iret
      | apply kp_lret
      | apply kp_vret
      | apply kp_virt hC
      | apply kp_spec hC
      | apply kp_stat hC
      | exact kp_goS fun w => ok_cons (ok_i _) w.1
      | exact kp_goS fun w => ok_cons (ok_l _) w.1
      | exact kp_jmp fun w => w.1
      | (split; apply kp_arr; exact kp_no)
  · exact kp_no
theorem kp_run {C : CF} (hC : CP C) (d : Nat) (m : MM) : ∀ (f : Nat) (c : Cfg) (r : Res), runN C d m f c = some r → WF m c → Ext c.2.2.2 r.2 ∧ wfH r.2 ∧ okOut r := by
  intro f
  induction f with
  | zero => intro c r h; cases h
  | succ f ih =>
    intro c r h w
    unfold runN at h
    obtain ⟨h1, h2⟩ := kp_step hC d m c w
    cases hs : step1 C d m c with
    | none => rw [hs] at h; cases h
    | some q =>
      rw [hs] at h
      cases q with
      | inl r' => cases h; exact h2 r hs
      | inr c' =>
        obtain ⟨w', x⟩ := h1 c' hs
        obtain ⟨x2, w2⟩ := ih c' r h w'
        exact ⟨x.trans x2, w2⟩
theorem entA_get : ∀ (a : List Value) (i : Nat) (v : Value), (entA a)[i]? = some (some v) → v ∈ a := by
  intro a
  induction a with
  | nil => intro i v h; cases h
  | cons x r ih =>
    intro i v h
    cases x with
    | long y =>
      cases i with
      | zero => cases h; exact List.mem_cons_self
      | succ i => cases i with
        | zero => cases h
        | succ i => exact List.mem_cons_of_mem _ (ih i v h)
    | _ =>
      cases i with
      | zero => first | (cases h; exact List.mem_cons_self) | cases h
      | succ i => exact List.mem_cons_of_mem _ (ih i v h)
theorem longs_get {S : List Nat} : ∀ (L : LV) (k i : Nat) (x : Int64), longsOK S k L = true → L[i]? = some (some (.long x)) → S.contains (k + i) = true := by
  intro L
  induction L with
  | nil => intro k i x _ h; cases h
  | cons o r ih =>
    intro k i x h e
    cases i with
    | zero =>
      cases e
      unfold longsOK at h
      exact (Bool.and_eq_true_iff.mp h).1
    | succ i =>
      have h' : longsOK S (k + 1) r = true := by
        unfold longsOK at h
        split at h
        · next e1 => cases e1
        · next e1 => cases e1; exact (Bool.and_eq_true_iff.mp h).2
        · next e1 => cases e1; exact h
      have := ih (k + 1) i x h' e
      rw [show k + (i + 1) = k + 1 + i by omega]
      exact this
theorem wf_ent {m : MM} {a : List Value} {σ : HP} (h : entOK m a = true) (ha : ∀ v ∈ a, okV σ v) (hw : wfH σ) : WF m (0, ent (zl m) a, [], σ) := by
  unfold entOK at h
  simp only [Bool.and_eq_true, decide_eq_true_eq] at h
  obtain ⟨⟨-, h2⟩, h3⟩ := h
  refine ⟨fun _ q => by (cases q), fun i v e => ?_, hw, ?_⟩
  · have e : (entA a ++ List.replicate (zl m - (entA a).length) none)[i]? = some (some v) := e
    rw [List.getElem?_append] at e
    split at e
    · refine ⟨ha v (entA_get a i v e), fun x q => ?_⟩
      subst q
      have := longs_get (entA a) 0 i x h3 e
      rwa [Nat.zero_add] at this
    · rw [List.getElem?_replicate] at e
      split at e <;> cases e
  · show (entA a ++ List.replicate (zl m - (entA a).length) none).length = zl m
    rw [List.length_append, List.length_replicate]
    omega
theorem kp_callF : ∀ d, CP (callF d) := by
  intro d
  induction d with
  | zero => intro m a σ r h; cases h
  | succ d ih =>
    intro m a σ r h ha hw
    have h : (if entOK m a = true then runF (callF d) d m (0, ent (zl m) a, [], σ) else none) = some r := h
    split at h
    · next he =>
      obtain ⟨f, hf⟩ := runF_some.mp h
      exact kp_run ih d m f _ r hf (wf_ent he ha hw)
    · cases h
