/-! BOTH SIDES -/
def Mdo (a : Nat) : Prop := 62 ≤ a / 64 ∧ a / 64 < 88
theorem CX.sm {σ σ' : HP} {h l l2 b bq : Nat} {H : HH} {w : LW} {D : DN} {tp : TPE} {ct : CNT} {B : BK} {pw : PW} {im : IMS} (A : CX σ h l l2 b bq H w D tp ct B pw im) (F : Fx Mdo σ σ') : CX σ' h l l2 b bq H w D tp ct B pw im := by
  obtain ⟨cf, cn, ⟨r8, r9, r10⟩, ⟨i1, i2, i3, i4, i5⟩, cl, ba, pa, ta, m0, t1, t2, t3⟩ := A
  obtain ⟨n1, n2, n3, n4, n5⟩ := cn
  have lo : ∀ a, a / 64 < 62 → ¬ Mdo a := fun a z y => by unfold Mdo at y; omega
  refine ⟨cf.of (fun a j z => F.R (by unfold kc at z; omega) (lo _ (by unfold kc at z; omega))), ⟨n1, Nat.lt_of_lt_of_le n2 F.N, Nat.le_trans n3 F.N, n4, n5⟩, ⟨(F.R (by omega) (lo _ (by omega))).trans r8, (F.R (by omega) (lo _ (by omega))).trans r9, (F.R (by omega) (lo _ (by omega))).trans r10⟩, ⟨(F.I (by omega) (lo _ (by omega))).trans i1, (F.I (by omega) (lo _ (by omega))).trans i2, (F.I (by omega) (lo _ (by omega))).trans i3, (F.I (by omega) (lo _ (by omega))).trans i4, (F.I (by omega) (lo _ (by omega))).trans i5⟩, cl.fx F (by omega) n2 (by omega) (by omega) (lo _ (by omega)) (fun a x y z => by unfold Mdo at z; omega) (fun a x y z => by unfold Mdo at z; omega) (fun a x y z => by unfold Mdo at z; omega), ba.fx F (by omega) (lo _ (by omega)) (lo _ (by omega)), pa.fx F n3 (lo _ (by omega)) (lo _ (by omega)) (lo _ (by omega)) (fun x y z => by unfold Mdo at z; omega), fun i hi => ?_, (F.I (by omega) (lo _ (by omega))).trans m0, t1, t2, t3⟩
  rw [F.I (by omega) (lo _ (by omega))]
  exact ta i hi
theorem CW.sm {σ σ' : HP} {H : HH} {w : LW} {D : DN} {tp : TPE} {ct : CNT} {B : BK} {pw : PW} {im : IMS} (A : CW σ H w D tp ct B pw im) (F : Fx Mdo σ σ') : CW σ' H w D tp ct B pw im := by
  obtain ⟨h, l, l2, b, bq, A⟩ := A
  exact ⟨h, l, l2, b, bq, A.sm F⟩
theorem CW.n {σ : HP} {H : HH} {w : LW} {D : DN} {tp : TPE} {ct : CNT} {B : BK} {pw : PW} {im : IMS} (A : CW σ H w D tp ct B pw im) : 88 ≤ hN σ := by
  obtain ⟨h, l, l2, b, bq, A⟩ := A
  exact A.2.1.2.2.1
theorem OKm.mo {σ σ' : HP} (O : OKm σ σ') : Fx Mdo σ σ' := O.1.mono (fun a z => by unfold Mdl at z; unfold Mdo; omega)
theorem MW.eq2 {σ : HP} {H : HH} {w : LW} {D : DN} {tp : TPE} {ct : CNT} {B : BK} {pw : PW} {im : IMS} (A : MW σ H w D tp ct B pw im) {σ' : HP} (hI : ∀ a j, 62 ≤ a / 64 → a / 64 < 87 → gI σ' a j = gI σ a j) (hR : ∀ j, gR σ' 3980 j = gR σ 3980 j) : MW σ' H w D tp ct B pw im := by
  obtain ⟨a, ⟨b1, b2, b3, b4, b5, b6⟩, c, e, f, ⟨g1, g2, g3⟩, ⟨m1, m2, m3, m4⟩, ⟨i1, i2, i3⟩, ⟨j1, j2, j3⟩, ⟨l1, l2, l3⟩⟩ := A
  refine ⟨a.of hR, ⟨(hI _ _ (by omega) (by omega)).trans b1, (hI _ _ (by omega) (by omega)).trans b2, (hI _ _ (by omega) (by omega)).trans b3, (hI _ _ (by omega) (by omega)).trans b4, fun k hk => (hI _ _ (by omega) (by omega)).trans (b5 k hk), fun k hk => (hI _ _ (by omega) (by omega)).trans (b6 k hk)⟩, ?_, fun k hk => (hI _ _ (by omega) (by omega)).trans (e k hk), f, ⟨(hI _ _ (by omega) (by omega)).trans g1, g2, fun k hk => ⟨(hI _ _ (by omega) (by omega)).trans (g3 k hk).1, (g3 k hk).2⟩⟩, ⟨(hI _ _ (by omega) (by omega)).trans m1, (hI _ _ (by omega) (by omega)).trans m2, (hI _ _ (by omega) (by omega)).trans m3, (hI _ _ (by omega) (by omega)).trans m4⟩, ⟨(hI _ _ (by omega) (by omega)).trans i1, fun m hm => (hI _ _ (by omega) (by omega)).trans (i2 m hm), i3⟩, ⟨(hI _ _ (by omega) (by omega)).trans j1, j2, fun i hi k hk => (hI _ _ (by omega) (by omega)).trans (j3 i hi k hk)⟩, ⟨(hI _ _ (by omega) (by omega)).trans l1, l2, fun i hi => ⟨fun k hk => (hI _ _ (by omega) (by omega)).trans ((l3 i hi).1 k hk), (hI _ _ (by omega) (by omega)).trans (l3 i hi).2.1, fun j hj k hk => (hI _ _ (by omega) (by omega)).trans ((l3 i hi).2.2 j hj k hk)⟩⟩⟩
  rcases c with ⟨c1, c2⟩ | ⟨c1, c2⟩
  · exact Or.inl ⟨(hI _ _ (by omega) (by omega)).trans c1, c2⟩
  · exact Or.inr ⟨(hI _ _ (by omega) (by omega)).trans c1, fun k hk => ⟨(hI _ _ (by omega) (by omega)).trans (c2 k hk).1, (hI _ _ (by omega) (by omega)).trans (c2 k hk).2⟩⟩
theorem MW.okc {σ : HP} {H : HH} {w : LW} {D : DN} {tp : TPE} {ct : CNT} {B : BK} {pw : PW} {im : IMS} (A : MW σ H w D tp ct B pw im) {σ' : HP} (O : OKc σ σ') (hn : 88 ≤ hN σ) : MW σ' H w D tp ct B pw im := A.eq2 (fun a j h1 h2 => O.1.I (by omega) (fun z => by unfold Cls at z; omega)) (fun j => O.1.R (by omega) (fun z => by unfold Cls at z; omega))
theorem MW.oj {σ : HP} {H : HH} {w : LW} {D : DN} {tp : TPE} {ct : CNT} {B : BK} {pw : PW} {im : IMS} (A : MW σ H w D tp ct B pw im) {v : Int64} : MW (wJ σ 5602 0 v) H w D tp ct B pw im := A.eq2 (fun a j _ _ => rfl) (fun j => rfl)
def WJ (σ : HP) : Prop := ∃ (H : HH) (w : LW) (D : DN) (tp : TPE) (ct : CNT) (B : BK) (pw : PW) (im : IMS), CW σ H w D tp ct B pw im ∧ MW σ H w D tp ct B pw im
def SJ (σ σ' : HP) : Prop := hL σ' = hL σ ∧ ∀ j, gI σ' 18 j = gI σ 18 j
def OKj (σ σ' : HP) : Prop := SJ σ σ' ∧ hN σ' ≤ hN σ + 12 ∧ hS σ' ≤ hS σ + 400
theorem OKc.sj {σ σ' : HP} (O : OKc σ σ') (hn : 88 ≤ hN σ) : SJ σ σ' := ⟨O.1.1, fun j => O.1.I (by omega) (fun z => by unfold Cls at z; omega)⟩
theorem OKm.sj {σ σ' : HP} (O : OKm σ σ') (hn : 88 ≤ hN σ) : SJ σ σ' := ⟨O.1.1, fun j => O.1.I (by omega) (fun z => by unfold Mdl at z; omega)⟩
theorem SJ.tr {σ σ' σ'' : HP} (h : SJ σ σ') (h' : SJ σ' σ'') : SJ σ σ'' := ⟨h'.1.trans h.1, fun j => (h'.2 j).trans (h.2 j)⟩
/-- a call of the class in its wrapper, then the reference's call -/
def JL (σ : HP) (cc : Option Res) (mc : HP → Option Res) : Prop := ∃ (c : Nat) (v : Int32) (σ1 σ2 : HP), cc = some (.inl (some (.int (ii c))), σ1) ∧ mc σ1 = some (.inl (some (.int v)), σ2) ∧ c < 3 ∧ gI σ2 3980 0 = ii c ∧ (c = 0 → gJ σ2 5602 0 = Int32.toInt64 v) ∧ WJ σ2 ∧ OKj σ σ2 ∧ SJ σ σ1
def JS (σ : HP) (cc : Option Res) (mc : HP → Option Res) : Prop := ∃ (c : Nat) (v : Int64) (σ1 σ2 : HP), cc = some (.inl (some (.int (ii c))), σ1) ∧ mc σ1 = some (.inl (some (.long v)), σ2) ∧ c < 3 ∧ gI σ2 3980 0 = ii c ∧ (c = 0 → gJ σ2 5602 0 = v) ∧ WJ σ2 ∧ OKj σ σ2 ∧ SJ σ σ1
def JD (σ : HP) (cc : Option Res) (mc : HP → Option Res) : Prop := ∃ (v : Int32) (σ1 σ2 : HP), cc = some (.inl (some (.int v)), σ1) ∧ mc σ1 = some (.inl (some (.int v)), σ2) ∧ WJ σ2 ∧ OKj σ σ2 ∧ SJ σ σ1
theorem wj_fx {σ : HP} {v : Int64} : Fx Mdo σ (wJ σ 5602 0 v) := Fx.wj Fx.rf (by unfold Mdo; omega)
section
variable {σ σ1 : HP} {H : HH} {w : LW} {D : DN} {tp : TPE} {ct : CNT} {B : BK} {pw : PW} {im : IMS} {cc : Option Res} {mc : HP → Option Res}
theorem OKj.mk {σ2 : HP} (O : OKc σ σ1) (hn : 88 ≤ hN σ) (O2 : OKm σ1 σ2) : OKj σ σ2 := by
  have a1 := O.1.2.1
  refine ⟨(O.sj hn).tr (O2.sj (by omega)), ?_, ?_⟩
  · rw [O2.2.1]; exact O.2.1
  · rw [O2.2.2]; exact O.2.2
theorem OKj.mk' {σ2 : HP} {v : Int64} (O : OKc σ σ1) (hn : 88 ≤ hN σ) (O2 : OKm (wJ σ1 5602 0 v) σ2) : OKj σ σ2 := by
  have a1 := O.1.2.1
  have h1 : SJ σ1 (wJ σ1 5602 0 v) := ⟨rfl, fun _ => rfl⟩
  refine ⟨((O.sj hn).tr h1).tr (O2.sj (by show 88 ≤ hN σ1; omega)), ?_, ?_⟩
  · rw [O2.2.1]; exact O.2.1
  · rw [O2.2.2]; exact O.2.2
theorem JL.v {v : Int32} (C1 : CW σ1 H w D tp ct B pw im) (O : OKc σ σ1) (hn : 88 ≤ hN σ) (ec : cc = some (.inl (some (.int (ii 0))), wJ σ1 5602 0 (Int32.toInt64 v))) (q : MQi (wJ σ1 5602 0 (Int32.toInt64 v)) (mc (wJ σ1 5602 0 (Int32.toInt64 v))) v 0 (fun τ => MW τ H w D tp ct B pw im)) : JL σ cc mc := by
  obtain ⟨σ2, e2, O2, h0, M2⟩ := q
  have n1 := C1.n
  refine ⟨0, v, _, σ2, ec, e2, by omega, h0, fun _ => ?_, ⟨H, w, D, tp, ct, B, pw, im, (C1.sm wj_fx).sm O2.mo, M2⟩, OKj.mk' O hn O2, (O.sj hn).tr ⟨rfl, fun _ => rfl⟩⟩
  rw [O2.1.J (by show 5602 / 64 < hN σ1; omega) (by unfold Mdl; omega)]
  exact gJ_at
theorem JS.v {v : Int64} (C1 : CW σ1 H w D tp ct B pw im) (O : OKc σ σ1) (hn : 88 ≤ hN σ) (ec : cc = some (.inl (some (.int (ii 0))), wJ σ1 5602 0 v)) (q : MQj (wJ σ1 5602 0 v) (mc (wJ σ1 5602 0 v)) v 0 (fun τ => MW τ H w D tp ct B pw im)) : JS σ cc mc := by
  obtain ⟨σ2, e2, O2, h0, M2⟩ := q
  have n1 := C1.n
  refine ⟨0, v, _, σ2, ec, e2, by omega, h0, fun _ => ?_, ⟨H, w, D, tp, ct, B, pw, im, (C1.sm wj_fx).sm O2.mo, M2⟩, OKj.mk' O hn O2, (O.sj hn).tr ⟨rfl, fun _ => rfl⟩⟩
  rw [O2.1.J (by show 5602 / 64 < hN σ1; omega) (by unfold Mdl; omega)]
  exact gJ_at
theorem JL.x {c : Nat} (C1 : CW σ1 H w D tp ct B pw im) (O : OKc σ σ1) (hn : 88 ≤ hN σ) (h1 : 1 ≤ c) (h3 : c < 3) (ec : cc = some (.inl (some (.int (ii c))), σ1)) (q : MQi σ1 (mc σ1) (ii 0) c (fun τ => MW τ H w D tp ct B pw im)) : JL σ cc mc := by
  obtain ⟨σ2, e2, O2, h0, M2⟩ := q
  exact ⟨c, ii 0, _, σ2, ec, e2, h3, h0, fun z => by omega, ⟨H, w, D, tp, ct, B, pw, im, C1.sm O2.mo, M2⟩, OKj.mk O hn O2, O.sj hn⟩
theorem JS.x {c : Nat} (C1 : CW σ1 H w D tp ct B pw im) (O : OKc σ σ1) (hn : 88 ≤ hN σ) (h1 : 1 ≤ c) (h3 : c < 3) (ec : cc = some (.inl (some (.int (ii c))), σ1)) (q : MQj σ1 (mc σ1) (jj 0) c (fun τ => MW τ H w D tp ct B pw im)) : JS σ cc mc := by
  obtain ⟨σ2, e2, O2, h0, M2⟩ := q
  exact ⟨c, jj 0, _, σ2, ec, e2, h3, h0, fun z => by omega, ⟨H, w, D, tp, ct, B, pw, im, C1.sm O2.mo, M2⟩, OKj.mk O hn O2, O.sj hn⟩
theorem JD.v {v : Int32} (C1 : CW σ1 H w D tp ct B pw im) (O : OKc σ σ1) (hn : 88 ≤ hN σ) (ec : cc = some (.inl (some (.int v)), σ1)) (q : MQi σ1 (mc σ1) v 0 (fun τ => MW τ H w D tp ct B pw im)) : JD σ cc mc := by
  obtain ⟨σ2, e2, O2, h0, M2⟩ := q
  exact ⟨v, _, σ2, ec, e2, ⟨H, w, D, tp, ct, B, pw, im, C1.sm O2.mo, M2⟩, OKj.mk O hn O2, O.sj hn⟩
end
theorem cmp_self (x : Int64) : lg_cmp x x = ii 0 := by
  unfold lg_cmp
  rw [if_neg (fun h => Int64.lt_irrefl h), if_pos rfl]
  rfl
