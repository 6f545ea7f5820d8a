/-! steps that read or write cells -/
section SndH
variable {p : Program} {l : Launch} {e : Env} {R : Room} {s : State} {m : MethodId} {args : Array Value} {below : List Frame} {meth : Method} {c : Code} {Q : State → Prop}
variable {E : EE} {K : State → Prop} {mm : MM} {d : Nat} {σ0 : HP}
theorem fl_facts {o idx ci k : Nat} (h : fl o idx = some (ci, k)) : ci < 13 ∧ k < zN ci ∧ Cond.fieldLink (zC o) idx (zT ci k).1 (zT ci k).2.1 (zT ci k).2.2.1 ∈ gt := ⟨(fl_in h).1, (fl_in h).2, fl_ok h⟩
theorem ob_P {H : Heap} {A ci : Nat} {V : Nat → Value} (hci : ci < 13) (h : t_OB A ((eD E).1 ci) (zN ci) ((eD E).2 ci) H V) : va_P (eD E) clz [(A, .inr (ci, (List.range (zN ci)).map V))] H := by
  intro k q hq
  cases k with
  | zero =>
    cases hq
    refine ⟨_, clz_at hci, h.to fun k hk => ?_⟩
    have hk : k < zN ci := hk
    unfold vp_V
    rw [List.getD_eq_getElem?_getD, List.getElem?_map, List.getElem?_range hk]
    rfl
  | succ k => cases hq
theorem sn_get (A : Act E K p R s m args meth c mm d) {idx pc : Nat} {L : LV} {st : List Value} {σ : HP} {x : Cfg} (hd : decode (zb mm) pc = .ok (.getfield idx, 3)) (w : WF mm (pc, L, st, σ)) (h : zGet (zo mm) idx pc L st σ = some (.inr x)) (hr : Rm R σ0 x.2.2.2) (k : WK E p l e R s m args below meth c Q σ0 x) : WK E p l e R s m args below meth c Q σ0 (pc, L, st, σ) := by
  unfold zGet at h
  split at h
  · next a r =>
    split at h
    · next ci kf hf =>
      obtain ⟨hci, hkf, hlk⟩ := fl_facts hf
      split at h
      · next ha =>
        have ha : a % 64 = ci := ha
        subst ha
        have hv : okV σ (.ref a) := w.1 _ List.mem_cons_self
        have key : ∀ (ls : Array Slot) (H : Heap) (locs : List Loc) (cells slots : Nat), Rep E σ H → W p l e R s m args below meth c H locs cells slots Q (F0 m (pc + 3) ls (fv E σ a kf :: r.map (cv E))) → W p l e R s m args below meth c H locs cells slots Q (F0 m pc ls ((Value.ref a :: r).map (cv E))) := by
          intro ls H locs cells slots h2 kk
          obtain ⟨-, -, hob⟩ := rep_ob h2 hv hci
          refine va_get (D := eD E) (cl := clz) (tys := tyz E) (Ts := gt) A.1 A.2.1 A.2.2.2.2.2.1 (u_in hci) A.2.2.2.2.1 A.2.2.2.2.2.2.2.2.2.1.1 (ob_P hci hob) 0 rfl (clz_at hci) kf hkf (A.2.2.2.2.2.1 _ hlk) (fun _ z => z) ?_ hd kk
          rw [List.getElem?_map, List.getElem?_range hkf]
          rfl
        split at h
        · next ht =>
          cases h
          intro ls H locs cells slots h1 h2 h3 h4 h5
          refine key ls H locs cells slots h2 ?_
          unfold fv
          rw [if_pos ht]
          exact k ls H locs cells slots h1 h2 h3 h4 h5
        · next ht =>
          cases h
          intro ls H locs cells slots h1 h2 h3 h4 h5
          refine key ls H locs cells slots h2 ?_
          unfold fv
          rw [if_neg ht]
          exact k ls H locs cells slots h1 h2 h3 h4 h5
      · cases h
    · cases h
  · cases h
/-- a field is written: its cell alone changes -/
theorem zw_put (A : Act E K p R s m args meth c mm d) {idx pc ci kf : Nat} {ls : Array Slot} {H : Heap} {locs : List Loc} {cells slots : Nat} {rest : List Value} {o : Nat} {v : Value} {V : Nat → Value} (hd : decode (zb mm) pc = .ok (.putfield idx, 3)) (hf : fl (zo mm) idx = some (ci, kf)) (hfin : ¬ (zfin ci kf = true ∧ ¬ (zi mm = true ∧ zo mm = ci)))
    (hob : t_OB o ((eD E).1 ci) (zN ci) ((eD E).2 ci) H V) (hn : narrow (zty ci kf) v = v) (hfit : fits (zty ci kf) v = true)
    (kk : ∀ (H' : Heap) (locs' : List Loc), t_OB o ((eD E).1 ci) (zN ci) ((eD E).2 ci) H' (updV V kf v) → H'.size = H.size → (∀ q, q ≠ o → H'[q]? = H[q]?) → (∀ q ∈ locs', q ∈ locs ∨ q.base = o) → W p l e R s m args below meth c H' locs' cells slots Q (F0 m (pc + 3) ls rest)) :
    W p l e R s m args below meth c H locs cells slots Q (F0 m pc ls (v :: .ref o :: rest)) := by
  obtain ⟨hci, hkf, hlk⟩ := fl_facts hf
  obtain ⟨hty, -, hfn, hcls⟩ := u_ty hci kf hkf
  have hts := A.2.2.2.2.2.1
  have hKn := A.2.2.2.2.2.2.2.2.2.1.1
  have hap := va_apart (own := zC (zo mm)) hts (u_in hci) (zty ci) (fun k hk => (u_ty hci k hk).1) (u_nm hci) hKn (clz_at hci)
  obtain ⟨cell, q1, q2, q3, q4⟩ := hob
  obtain ⟨hS, hfc, kC, hkC, hkind⟩ := hKn.1 ci _ (clz_at hci)
  obtain ⟨cf, kc, fi, f, hi, hsl⟩ := hS kf hkf
  have hlay := hts _ (u_in hci _ (u_in_lay hkf))
  unfold u_lay at hlay
  have hst := (u_facts hfc hkC (u_lays hts (u_in hci) hkf) hi).1
  have fin : ∀ H' : Heap, H'[o]? = some (cell.setSlot f.slot v) → H'.size = H.size → (∀ q, q ≠ o → H'[q]? = H[q]?) → W p l e R s m args below meth c H' (locs ++ [⟨o, f.slot⟩]) cells slots Q (F0 m (pc + 3) ls rest) := by
    intro H' e1 e2 e3
    refine kk H' _ ⟨_, e1, q2, q3, ?_⟩ e2 e3 (fun q hq => ?_)
    · rw [hsl]
      exact t_set q4 hap hkf v
    · rcases List.mem_append.mp hq with h | h
      · exact Or.inl h
      · rw [List.mem_singleton.mp h]; exact Or.inr rfl
  cases hz : zfin ci kf with
  | false =>
    rw [hfn, if_neg (by rw [hz]; decide)] at hlay
    have h6 := u_store hfc hkC hkind hlay hi hty hn hfit
    exact W.putK A.1 A.2.1 (f := f) ⟨A.2.2.2.2.1, hts _ hlk, ⟨_, _, _, hi⟩, hst⟩ (by rw [q2]; exact h6) q1 q3 (by rw [hsl]; exact k2_hasslot (q4 kf hkf)) rfl rfl hd fin
  | true =>
    rw [hfn, if_pos (by rw [hz])] at hlay
    have hzi : zi mm = true ∧ zo mm = ci := by
      by_cases h : zi mm = true ∧ zo mm = ci
      · exact h
      · exact absurd ⟨hz, h⟩ hfin
    have hcf : m.cls = cf := by
      obtain ⟨_, _, c', _, _, _, -, -, hf', -, -, -, hown2, -⟩ := Cond.laysFinal_spec hlay
      have e1 : c' = cf := by have := hi.symm.trans hf'; simp at this; exact this.1.symm
      rw [hcls, ← hzi.2] at hown2
      rw [← e1]; exact Option.some.inj (A.2.2.2.2.1.symm.trans hown2)
    have h6 := u_fits hfc hkC hkind (Or.inr hlay) hi hty hn hfit
    exact W.putFinK A.1 A.2.1 A.2.2.2.2.1 (hts _ hlk) hi hst hcf (A.2.2.2.2.2.2.2.1 hzi.1) (by rw [q2]; exact h6) q1 q3 (by rw [hsl]; exact k2_hasslot (q4 kf hkf)) rfl rfl hd fin
theorem nar_ref {ty : FieldType} (h : ty.isReference = true) (v : Value) (hv : v = .null ∨ ∃ a, v = .ref a) : narrow ty v = v ∧ fits ty v = true := by
  cases ty with
  | object C => rcases hv with rfl | ⟨a, rfl⟩ <;> exact ⟨rfl, rfl⟩
  | array t => rcases hv with rfl | ⟨a, rfl⟩ <;> exact ⟨rfl, rfl⟩
  | _ => cases h
theorem locs_ok {locs locs' : List Loc} {o B : Nat} (h : ∀ q ∈ locs, B ≤ q.base) (h' : ∀ q ∈ locs', q ∈ locs ∨ q.base = o) (ho : B ≤ o) : ∀ q ∈ locs', B ≤ q.base := fun q hq => by
  rcases h' q hq with z | z
  · exact h q z
  · rw [z]; exact ho
theorem fv_upd {σ σ' : HP} {a kf : Nat} {v : Value} (h1 : fv E σ' a kf = v) (h2 : ∀ j, j ≠ kf → fv E σ' a j = fv E σ a j) : updV (fv E σ a) kf v = fv E σ' a := by
  funext j
  unfold updV
  split
  · next e => rw [e, h1]
  · next e => rw [h2 j e]
theorem sn_put (A : Act E K p R s m args meth c mm d) {idx pc : Nat} {L : LV} {st : List Value} {σ : HP} {x : Cfg} (hd : decode (zb mm) pc = .ok (.putfield idx, 3)) (w : WF mm (pc, L, st, σ)) (h : zPut mm idx pc L st σ = some (.inr x)) (hr : Rm R σ0 x.2.2.2) (k : WK E p l e R s m args below meth c Q σ0 x) : WK E p l e R s m args below meth c Q σ0 (pc, L, st, σ) := by
  unfold zPut at h
  split at h
  · cases h
  · next ci kf hf =>
    obtain ⟨hci, hkf, hlk⟩ := fl_facts hf
    obtain ⟨hty, htt, hfn, hcls⟩ := u_ty hci kf hkf
    split at h
    · cases h
    · next hfin =>
      have gen : ∀ (a : Nat) (r : List Value) (v : Value) (σ' : HP), a % 64 = ci → WF mm (pc, L, v :: .ref a :: r, σ) → narrow (zty ci kf) (cv E v) = cv E v ∧ fits (zty ci kf) (cv E v) = true → σ'.1 = σ.1 → (∀ b k, b ≠ a → gI σ' b k = gI σ b k) → (∀ b k, b ≠ a → gJ σ' b k = gJ σ b k) → (∀ b k, b ≠ a → gR σ' b k = gR σ b k) →
          fv E σ' a kf = cv E v → (∀ j, j ≠ kf → fv E σ' a j = fv E σ a j) → WK E p l e R s m args below meth c Q σ0 (pc + 3, L, r, σ') → WK E p l e R s m args below meth c Q σ0 (pc, L, v :: .ref a :: r, σ) := by
        intro a r v σ' ha w' hnf e1 eI eJ eR ev eo k'
        subst ha
        intro ls H locs cells slots h1 h2 h3 h4 h5
        have hv : okV σ (.ref a) := w'.1 _ (List.mem_cons_of_mem _ List.mem_cons_self)
        obtain ⟨hvl, had, hob⟩ := rep_ob h2 hv hci
        refine zw_put A hd hf hfin hob hnf.1 hnf.2 (fun H' locs' g1 g2 g3 g4 => ?_)
        rw [fv_upd ev eo] at g1
        refine k' ls H' locs' cells slots h1 ?_ (locs_ok h3 g4 (by rw [had]; exact Nat.le_add_right _ _)) (by rw [h4]; show hN σ = hN σ'; unfold hN; rw [e1]) (by rw [h5]; show hS σ = hS σ'; unfold hS; rw [e1])
        refine rep_upd h2 hvl (by omega) e1 eI eJ eR g2 (fun q hq => g3 q (by rw [had]; exact hq)) ⟨fun _ => by rw [had] at g1; exact g1, fun z => ?_⟩
        have := aty_arr z
        omega
      split at h
      · next y a r =>
        split at h
        · next hc =>
          cases h
          have hz : zft (a % 64) kf = 0 := by rw [show a % 64 = ci from hc.1]; exact hc.2
          refine gen a r (.int y) (wI σ a kf y) hc.1 w ?_ rfl (fun b j hb => if_neg (fun z => hb z.1)) (fun _ _ _ => rfl) (fun _ _ _ => rfl) ?_ (fun j hj => ?_) k
          · rcases htt with ⟨-, q⟩ | ⟨q, -⟩
            · rw [q]; exact ⟨rfl, rfl⟩
            · exact absurd hc.2 q
          · unfold fv
            rw [if_pos hz]
            exact congrArg Value.int (if_pos ⟨rfl, rfl⟩)
          · unfold fv
            rw [show gI (wI σ a kf y) a j = gI σ a j from if_neg (fun z => hj z.2)]
            rfl
        · cases h
      · next b a r =>
        split at h
        · next hc =>
          cases h
          have hz : ¬ zft (a % 64) kf = 0 := by rw [show a % 64 = ci from hc.1]; exact hc.2
          refine gen a r (.ref b) (wR σ a kf (some b)) hc.1 w ?_ rfl (fun _ _ _ => rfl) (fun _ _ _ => rfl) (fun b' j hb => if_neg (fun z => hb z.1)) ?_ (fun j hj => ?_) k
          · rcases htt with ⟨q, -⟩ | ⟨-, q⟩
            · exact absurd q hc.2
            · exact nar_ref q _ (Or.inr ⟨_, rfl⟩)
          · unfold fv
            rw [if_neg hz, show gR (wR σ a kf (some b)) a kf = some b from if_pos ⟨rfl, rfl⟩]
            rfl
          · unfold fv
            rw [show gR (wR σ a kf (some b)) a j = gR σ a j from if_neg (fun z => hj z.2)]
            rfl
        · cases h
      · next a r =>
        split at h
        · next hc =>
          cases h
          have hz : ¬ zft (a % 64) kf = 0 := by rw [show a % 64 = ci from hc.1]; exact hc.2
          refine gen a r .null (wR σ a kf none) hc.1 w ?_ rfl (fun _ _ _ => rfl) (fun _ _ _ => rfl) (fun b' j hb => if_neg (fun z => hb z.1)) ?_ (fun j hj => ?_) k
          · rcases htt with ⟨q, -⟩ | ⟨-, q⟩
            · exact absurd q hc.2
            · exact nar_ref q _ (Or.inl rfl)
          · unfold fv
            rw [if_neg hz, show gR (wR σ a kf none) a kf = none from if_pos ⟨rfl, rfl⟩]
            rfl
          · unfold fv
            rw [show gR (wR σ a kf none) a j = gR σ a j from if_neg (fun z => hj z.2)]
            rfl
        · cases h
      · cases h
end SndH
