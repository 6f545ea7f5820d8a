/-! THE CLASS: the whole object -/
def LR (σ : HP) (l : Nat) : Prop := gR σ (4 + 64 * l) 0 = some (29 + 64 * (l + 1)) ∧ gR σ (4 + 64 * l) 1 = some (29 + 64 * (l + 2)) ∧ gR σ (4 + 64 * l) 2 = some (23 + 64 * (l + 3))
/-- what never changes: references -/
def CFx (σ : HP) : Prop := (gR σ 71 0 = some 164 ∧ gR σ 11 0 = some 71 ∧ gR σ 11 1 = some 197 ∧ gR σ 11 2 = some 1221 ∧ gR σ 11 3 = some 2250 ∧ gR σ 11 4 = some 2502 ∧ gR σ 11 5 = some 2696 ∧ gR σ 11 6 = some 3017) ∧ gR σ 1221 2 = some 1921 ∧ DR σ 30 ∧ WKr σ ∧ SA σ 42 ∧ LR σ 10 ∧ LR σ 48 ∧ BR σ 52 ∧ BR σ 57
def kc (a j : Nat) : Prop := (a = 11 ∧ j ≤ 6) ∨ (a = 1221 ∧ j = 2) ∨ a = 1921 ∨ a = 2250 ∨ a = 2696 ∨ a = 71 ∨ a = 644 ∨ a = 3076 ∨ a = 3328 ∨ a = 3648
theorem CFx.of {σ σ' : HP} (A : CFx σ) (h : ∀ a j, kc a j → gR σ' a j = gR σ a j) : CFx σ' := by
  obtain ⟨⟨a0, a1, a2, a3, a4, a5, a6, a7⟩, b, ⟨c0, c1, c2, c3⟩, ⟨d0, d1, d2⟩, ⟨e0, e1, e2, e3⟩, ⟨i0, i1, i2⟩, ⟨j0, j1, j2⟩, ⟨k0, k1, k2, k3⟩, ⟨l0, l1, l2, l3⟩⟩ := A
  exact ⟨⟨(h _ _ (by unfold kc; omega)).trans a0, (h _ _ (by unfold kc; omega)).trans a1, (h _ _ (by unfold kc; omega)).trans a2, (h _ _ (by unfold kc; omega)).trans a3, (h _ _ (by unfold kc; omega)).trans a4, (h _ _ (by unfold kc; omega)).trans a5, (h _ _ (by unfold kc; omega)).trans a6, (h _ _ (by unfold kc; omega)).trans a7⟩, (h _ _ (by unfold kc; omega)).trans b, ⟨(h _ _ (by unfold kc; omega)).trans c0, (h _ _ (by unfold kc; omega)).trans c1, (h _ _ (by unfold kc; omega)).trans c2, (h _ _ (by unfold kc; omega)).trans c3⟩, ⟨(h _ _ (by unfold kc; omega)).trans d0, (h _ _ (by unfold kc; omega)).trans d1, (h _ _ (by unfold kc; omega)).trans d2⟩, ⟨(h _ _ (by unfold kc; omega)).trans e0, (h _ _ (by unfold kc; omega)).trans e1, (h _ _ (by unfold kc; omega)).trans e2, (h _ _ (by unfold kc; omega)).trans e3⟩, ⟨(h _ _ (by unfold kc; omega)).trans i0, (h _ _ (by unfold kc; omega)).trans i1, (h _ _ (by unfold kc; omega)).trans i2⟩, ⟨(h _ _ (by unfold kc; omega)).trans j0, (h _ _ (by unfold kc; omega)).trans j1, (h _ _ (by unfold kc; omega)).trans j2⟩, ⟨(h _ _ (by unfold kc; omega)).trans k0, (h _ _ (by unfold kc; omega)).trans k1, (h _ _ (by unfold kc; omega)).trans k2, (h _ _ (by unfold kc; omega)).trans k3⟩, ⟨(h _ _ (by unfold kc; omega)).trans l0, (h _ _ (by unfold kc; omega)).trans l1, (h _ _ (by unfold kc; omega)).trans l2, (h _ _ (by unfold kc; omega)).trans l3⟩⟩
abbrev TPE : Type := Nat × (Nat → Nat)
abbrev CNT : Type := Int32 × Nat × Nat × Nat
def dOK (H : HH) (D : DN) : Prop := wD H D ∧ D 86 ≤ 400
def wP (H : HH) (pw : PW) (im : IMS) : Prop := (∀ i, i < pw.1 → dOK H (pw.2 i)) ∧ ∀ i, i < im.1 → dOK H (im.2 i).1 ∧ (im.2 i).2.1 ≤ 16 ∧ ∀ j, j < (im.2 i).2.1 → dOK H ((im.2 i).2.2 j)
/-- where things are: house, laws, books -/
def CN (σ : HP) (h l l2 b bq : Nat) : Prop := (h = 4 ∨ 88 ≤ h) ∧ h + 5 < hN σ ∧ 88 ≤ hN σ ∧ (l = 10 ∧ l2 = 48 ∨ l = 48 ∧ l2 = 10) ∧ (b = 52 ∧ bq = 57 ∨ b = 57 ∧ bq = 52)
def CX (σ : HP) (h l l2 b bq : Nat) (H : HH) (w : LW) (D : DN) (tp : TPE) (ct : CNT) (B : BK) (pw : PW) (im : IMS) : Prop := CFx σ ∧ CN σ h l l2 b bq ∧ (gR σ 11 7 = some (4 + 64 * l2) ∧ gR σ 11 8 = some (64 * b) ∧ gR σ 11 9 = some (64 * bq)) ∧ (gI σ 11 10 = ii tp.1 ∧ gI σ 11 11 = ct.1 ∧ gI σ 11 12 = ii ct.2.1 ∧ gI σ 11 13 = ii ct.2.2.1 ∧ gI σ 11 14 = ii ct.2.2.2) ∧ CL σ 3 h l 14 H w D ∧ BA σ b B ∧ PaA σ pw im ∧ TA σ tp.2 ∧ gI σ 2844 0 = ii 0 ∧ tp.1 ≤ 600 ∧ D 86 ≤ 400 ∧ wP H pw im
def CW (σ : HP) (H : HH) (w : LW) (D : DN) (tp : TPE) (ct : CNT) (B : BK) (pw : PW) (im : IMS) : Prop := ∃ h l l2 b bq, CX σ h l l2 b bq H w D tp ct B pw im
/-- what is the class's own, of what was there at the start -/
def Cls (a : Nat) : Prop := a = 11 ∨ (1 ≤ a / 64 ∧ a / 64 < 62)
/-- a step of the class that leaves the world as it is: only ints outside of what counts have changed, refs perhaps of the trial lift -/
theorem CX.sc {σ σ' : HP} {h l l2 b bq : Nat} {H : HH} {w : LW} {D : DN} {tp : TPE} {ct : CNT} {B : BK} {pw : PW} {im : IMS} {S : Nat → Prop} (A : CX σ h l l2 b bq H w D tp ct B pw im) (F : Fx S σ σ') (q : ∀ a, S a → a ≠ 11 ∧ a ≠ 164 ∧ a ≠ 2502 ∧ a ≠ 2597 ∧ a ≠ 2662 ∧ a ≠ 197 ∧ a / 64 ≠ l ∧ a / 64 ≠ l + 1 ∧ (a / 64 < 14 ∨ 18 < a / 64) ∧ (a / 64 < 4 ∨ 9 < a / 64) ∧ a / 64 < 62) (hC : ∀ a j, kc a j → gR σ' a j = gR σ a j) (hB : BA σ' b B) (h0 : gI σ' 2844 0 = ii 0) : CX σ' h l l2 b bq H w D tp ct B pw im := by
  obtain ⟨cf, cn, ⟨r8, r9, r10⟩, ⟨i1, i2, i3, i4, i5⟩, cl, ba, pa, ta, m0, t1, t2, t3⟩ := A
  obtain ⟨n1, n2, n3, n4, n5⟩ := cn
  have s11 : ¬ S 11 := fun z => (q _ z).1 rfl
  refine ⟨cf.of hC, ⟨n1, Nat.lt_of_lt_of_le n2 F.N, Nat.le_trans n3 F.N, n4, n5⟩, ⟨(F.R (by omega) s11).trans r8, (F.R (by omega) s11).trans r9, (F.R (by omega) s11).trans r10⟩, ⟨(F.I (by omega) s11).trans i1, (F.I (by omega) s11).trans i2, (F.I (by omega) s11).trans i3, (F.I (by omega) s11).trans i4, (F.I (by omega) s11).trans i5⟩, cl.fx F (by omega) n2 (by omega) (by omega) (fun z => (q _ z).2.2.2.2.2.1 rfl) (fun a x y z => by have := q a z; omega) (fun a x y z => by have := q a z; omega) (fun a x y z => by have := q a z; omega), hB, pa.fx F n3 (fun z => (q _ z).2.2.1 rfl) (fun z => (q _ z).2.2.2.1 rfl) (fun z => (q _ z).2.2.2.2.1 rfl) (fun x y z => by have := q x z; omega), fun i hi => ?_, h0, t1, t2, t3⟩
  rw [F.I (by omega) (fun z => (q _ z).2.1 rfl)]
  exact ta i hi
theorem BA.fx {S : Nat → Prop} {σ σ' : HP} {b : Nat} {B : BK} (A : BA σ b B) (F : Fx S σ σ') (hn : b + 4 < hN σ) (q1 : ¬ S (64 * b)) (q2 : ¬ S (21 + 64 * (b + 1))) : BA σ' b B := by
  obtain ⟨a0, a3, a4, a5, a1, a2, av, aw⟩ := A
  exact ⟨(F.R (by omega) q1).trans a0, (F.R (by omega) q1).trans a3, (F.R (by omega) q1).trans a4, (F.R (by omega) q1).trans a5, (F.I (by omega) q1).trans a1, (F.I (by omega) q1).trans a2, fun m hm v hv => (F.I (by omega) q2).trans (av m hm v hv), aw⟩
/-- the law's own scratch -/
theorem CX.sl {σ σ' : HP} {h l l2 b bq : Nat} {H : HH} {w : LW} {D : DN} {tp : TPE} {ct : CNT} {B : BK} {pw : PW} {im : IMS} (A : CX σ h l l2 b bq H w D tp ct B pw im) (F : Fs (Sl l) σ σ') : CX σ' h l l2 b bq H w D tp ct B pw im := by
  have A' := A
  obtain ⟨cf, cn, -, -, cl, ba, pa, ta, m0, -⟩ := A'
  obtain ⟨n1, n2, n3, n4, n5⟩ := cn
  exact A.sc F.x (fun a z => by unfold Sl at z; omega) (fun a j _ => F.R a j) (ba.fx F.x (by omega) (fun z => by unfold Sl at z; omega) (fun z => by unfold Sl at z; omega)) ((F.I (fun z => by unfold Sl at z; omega)).trans m0)
theorem Fs.cls {l : Nat} {σ σ' : HP} (F : Fs (Sl l) σ σ') (hl : l = 10 ∨ l = 48) : Fx Cls σ σ' := F.x.mono (fun a z => by unfold Sl at z; unfold Cls; omega)
/-- a call of the class: what it answers, the world behind it, nothing else changed -/
def OKc (σ σ' : HP) : Prop := Fx Cls σ σ' ∧ hN σ' ≤ hN σ + 12 ∧ hS σ' ≤ hS σ + 400
theorem OKc.rf {σ : HP} : OKc σ σ := ⟨Fx.rf, by omega, by omega⟩
theorem OKc.fs {S : Nat → Prop} {σ σ' : HP} (F : Fs S σ σ') (h : ∀ a, S a → Cls a) : OKc σ σ' := ⟨F.x.mono h, by rw [F.N]; omega, by rw [F.Z]; omega⟩
/-! the same by numbers: the lift as it is by now -/
theorem n_isInside {m d h l : Nat} {H : HH} {w : LW} {D : DN} {σ : HP} (c : CL σ 3 h l 14 H w D) (hk : m < 7) : callF (d + 2) m_Lift_isInside [.ref 197, .int (ii m)] σ = some (.inl (some (.int (b2 (decide (¬ D (7 + m) = 0))))), σ) := s_isInside c hk
theorem n_heavyOf {m d h l : Nat} {H : HH} {w : LW} {D : DN} {σ : HP} (c : CL σ 3 h l 14 H w D) (hk : m < hm H) : callF (d + 2) m_Lift_heavyOf [.ref 197, .int (ii m)] σ = some (.inl (some (.int (ii (heavy H D m)))), σ) := s_heavyOf c hk
theorem n_placeOf {m d h l : Nat} {H : HH} {w : LW} {D : DN} {σ : HP} (c : CL σ 3 h l 14 H w D) (hk : m < 7) : callF (d + 3) m_Lift_placeOf [.ref 197, .int (ii m)] σ = some (.inl (some (.int (ii (floorOf D m)))), σ) := s_placeOf c hk
theorem n_loadNow {d h l : Nat} {H : HH} {w : LW} {D : DN} {σ : HP} (c : CL σ 3 h l 14 H w D) : callF (d + 4) m_Lift_loadNow [.ref 197] σ = some (.inl (some (.int (ii (hvs H D (Bof D))))), σ) := s_loadNow c
theorem n_levelWith {B d h l : Nat} {H : HH} {w : LW} {D : DN} {σ : HP} (c : CL σ 3 h l 14 H w D) (hB : B < 256) : callF (d + 4) m_Lift_levelWith [.ref 197, .int (ii B)] σ = some (.inl (some (.int (ii (if B = 0 then D 84 else goesTo H (D 84) (hvs H D B))))), σ) := s_levelWith c hB
theorem n_liesTo {m d h l : Nat} {H : HH} {w : LW} {D : DN} {σ : HP} (c : CL σ 3 h l 14 H w D) (hk : m < hm H) : callF (d + 3) m_Lift_liesTo [.ref 197, .int (ii m)] σ = some (.inl (some (.int (ii (lieS H m)))), σ) := s_liesTo c hk
theorem n_heardByAll {k d h l : Nat} {H : HH} {w : LW} {D : DN} {σ : HP} (c : CL σ 3 h l 14 H w D) (hk : k < 8) : callF (d + 3) m_Lift_heardByAll [.ref 197, .int (ii k)] σ = some (.inl (some (.int (ii (sumTo (fun m => D (28 + (m * 8 + k))) (hm H))))), σ) := s_heardByAll c hk
theorem n_ridesOfAll {d h l : Nat} {H : HH} {w : LW} {D : DN} {σ : HP} (c : CL σ 3 h l 14 H w D) : callF (d + 3) m_Lift_ridesOfAll [.ref 197] σ = some (.inl (some (.int (ii (sumTo (fun m => D (21 + m)) (hm H))))), σ) := s_ridesOfAll c
theorem n_walkAllTo {f d h l : Nat} {H : HH} {w : LW} {D : DN} {σ : HP} (c : CL σ 3 h l 14 H w D) (hf' : f < 12) : callF (d + 4) m_Lift_walkAllTo [.ref 197, .int (ii f)] σ = some (.inl (some (.int (ii (walk H D f)))), σ) := s_walkAllTo c hf'
theorem n_breathBound {B n d h l : Nat} {H : HH} {w : LW} {D : DN} {σ : HP} (c : CL σ 3 h l 14 H w D) (hB : B < 256) (hn : n ≤ 9999) : callF (d + 3) m_Lift_breathBound [.ref 197, .int (ii B), .int (ii n)] σ = some (.inl (some (.int (ii (bsK (given H D B) n 10)))), σ) := s_breathBound c hB hn
theorem n_canEnter {m d h l : Nat} {H : HH} {w : LW} {D : DN} {σ : HP} (c : CL σ 3 h l 14 H w D) (hk : m < 7) : callF (d + 3) m_Lift_canEnter [.ref 197, .int (ii m)] σ = some (.inl (some (.int (b2 (entB D m)))), σ) := s_canEnter c hk
theorem n_timesHeard {m c d h l : Nat} {H : HH} {w : LW} {D : DN} {σ : HP} (L : CL σ 3 h l 14 H w D) (hk : m < 7) (hc : c < 8) : callF (d + 2) m_Days_timesHeard [.ref 897, .int (ii m), .int (ii c)] σ = some (.inl (some (.int (ii (D (28 + (m * 8 + c)))))), σ) := s_timesHeard L hk hc
theorem n_bestCouple {d h l : Nat} {H : HH} {w : LW} {D : DN} {σ : HP} (c : CL σ 3 h l 14 H w D) : callF (d + 4) m_Scales_bestCouple [.ref 2696, .ref 197] σ = some (.inl (some (.int (cpP (cpO H D (hm H))))), σ) := s_bestCouple (u := 42) c
theorem n_coupleApart {a b d h l : Nat} {H : HH} {w : LW} {D : DN} {σ : HP} (c : CL σ 3 h l 14 H w D) (ha : a < hm H) (hb : b < hm H) : callF (d + 3) m_Scales_coupleApart [.ref 2696, .ref 197, .int (ii a), .int (ii b)] σ = some (.inl (some (.int (ii (cpV H D a b)))), σ) := s_coupleApart (u := 42) c ha hb
theorem n_swellOf {m c d h l : Nat} {H : HH} {w : LW} {D : DN} {σ : HP} (L : CL σ 3 h l 14 H w D) (hk : m < hm H) (hc : c < hc H) : ∃ σ', callF (d + 4) m_Lift_swellOf [.ref 197, .int (ii m), .int (ii c)] σ = some (.inl (some (.int (ii (swell H w D m c)))), σ') ∧ Fs (Sl l) σ σ' := s_swellOf L hk hc
theorem n_mostSwelling {m B d h l : Nat} {H : HH} {w : LW} {D : DN} {σ : HP} (L : CL σ 3 h l 14 H w D) (hk : m < hm H) (hB : B < 256) : ∃ σ', callF (d + 5) m_Lift_mostSwelling [.ref 197, .int (ii m), .int (ii B)] σ = some (.inl (some (.int (oi (mxI (fun c => !B.testBit c) (swell H w D m) (hc H))))), σ') ∧ Fs (Sl l) σ σ' := s_mostSwelling L hk hB
/-! refusals -/
def rfA (σ : HP) (k : Nat) : HP := hA (wI σ 11 14 (ii k)) 63 6
def rfN (σ : HP) (k : Nat) : HP := hA (wI σ 11 13 (ii k)) 63 6
theorem OKc.rf63 {σ : HP} {j : Nat} {v : Int32} : OKc σ (hA (wI σ 11 j v) 63 6) := ⟨Fx.ha (Fx.wi Fx.rf (Or.inl rfl)), by show hN σ + 1 ≤ _; omega, by show hS σ + 6 ≤ _; omega⟩
theorem CX.w11 {σ : HP} {h l l2 b bq : Nat} {H : HH} {w : LW} {D : DN} {tp : TPE} {ct ct' : CNT} {B : BK} {pw : PW} {im : IMS} {j : Nat} {v : Int32} (A : CX σ h l l2 b bq H w D tp ct B pw im) (hj : (j = 11 ∧ ct' = (v, ct.2)) ∨ (j = 12 ∧ ∃ k, v = ii k ∧ ct' = (ct.1, k, ct.2.2)) ∨ (j = 13 ∧ ∃ k, v = ii k ∧ ct' = (ct.1, ct.2.1, k, ct.2.2.2)) ∨ (j = 14 ∧ ∃ k, v = ii k ∧ ct' = (ct.1, ct.2.1, ct.2.2.1, k))) : CX (wI σ 11 j v) h l l2 b bq H w D tp ct' B pw im := by
  obtain ⟨cf, cn, cr, ⟨i1, i2, i3, i4, i5⟩, cl, ba, pa, ta, m0, t1, t2, t3⟩ := A
  obtain ⟨n1, n2, n3, n4, n5⟩ := id cn
  have F : Fs (fun a => a = 11) σ (wI σ 11 j v) := Fs.w Fs.rf rfl
  refine ⟨cf.of (fun a k _ => rfl), cn, cr, ?_, cl.fs F (fun a x y z => by omega) (fun a x y z => by omega) (fun a x y z => by omega), ba.fx F.x (by omega) (by omega) (by omega), pa.fx F.x n3 (by omega) (by omega) (by omega) (fun x y z => by omega), ta.fs F (by omega), (F.I (by omega)).trans m0, t1, t2, t3⟩
  rcases hj with ⟨rfl, rfl⟩ | ⟨rfl, k, rfl, rfl⟩ | ⟨rfl, k, rfl, rfl⟩ | ⟨rfl, k, rfl, rfl⟩
  · exact ⟨by rw [gI_nj (by decide)]; exact i1, gI_at, by rw [gI_nj (by decide)]; exact i3, by rw [gI_nj (by decide)]; exact i4, by rw [gI_nj (by decide)]; exact i5⟩
  · exact ⟨by rw [gI_nj (by decide)]; exact i1, by rw [gI_nj (by decide)]; exact i2, gI_at, by rw [gI_nj (by decide)]; exact i4, by rw [gI_nj (by decide)]; exact i5⟩
  · exact ⟨by rw [gI_nj (by decide)]; exact i1, by rw [gI_nj (by decide)]; exact i2, by rw [gI_nj (by decide)]; exact i3, gI_at, by rw [gI_nj (by decide)]; exact i5⟩
  · exact ⟨by rw [gI_nj (by decide)]; exact i1, by rw [gI_nj (by decide)]; exact i2, by rw [gI_nj (by decide)]; exact i3, by rw [gI_nj (by decide)]; exact i4, gI_at⟩
theorem CX.ha {σ : HP} {h l l2 b bq k n : Nat} {H : HH} {w : LW} {D : DN} {tp : TPE} {ct : CNT} {B : BK} {pw : PW} {im : IMS} (A : CX σ h l l2 b bq H w D tp ct B pw im) : CX (hA σ k n) h l l2 b bq H w D tp ct B pw im := by
  have A' := A
  obtain ⟨cf, cn, cr, ci, cl, ba, pa, ta, m0, t1, t2, t3⟩ := A'
  obtain ⟨n1, n2, n3, n4, n5⟩ := id cn
  have F : Fx (fun _ => False) σ (hA σ k n) := Fx.ha Fx.rf
  exact A.sc F (fun a z => z.elim) (fun a j z => F.R (by unfold kc at z; omega) (fun y => y)) (ba.fx F (by omega) (fun z => z) (fun z => z)) ((F.I (by omega) (fun z => z)).trans m0)
theorem CX.rA {σ : HP} {h l l2 b bq : Nat} {H : HH} {w : LW} {D : DN} {tp : TPE} {ct : CNT} {B : BK} {pw : PW} {im : IMS} (A : CX σ h l l2 b bq H w D tp ct B pw im) : CX (rfA σ (ct.2.2.2 + 1)) h l l2 b bq H w D tp (ct.1, ct.2.1, ct.2.2.1, ct.2.2.2 + 1) B pw im := (A.w11 (Or.inr (Or.inr (Or.inr ⟨rfl, _, rfl, rfl⟩)))).ha
theorem CX.rN {σ : HP} {h l l2 b bq : Nat} {H : HH} {w : LW} {D : DN} {tp : TPE} {ct : CNT} {B : BK} {pw : PW} {im : IMS} (A : CX σ h l l2 b bq H w D tp ct B pw im) : CX (rfN σ (ct.2.2.1 + 1)) h l l2 b bq H w D tp (ct.1, ct.2.1, ct.2.2.1 + 1, ct.2.2.2) B pw im := (A.w11 (Or.inr (Or.inr (Or.inl ⟨rfl, _, rfl, rfl⟩)))).ha
theorem s_needArgT {d : Nat} {σ : HP} : callF (d + 1) m_PL_needArgument [.ref 11, .int (b2 true)] σ = some (.inl none, σ) := by
  rw [e_PL_needArgument, b_PL_needArgument_0, if_pos (by decide), b_PL_needArgument_25]
theorem s_needArgF {d k : Nat} {σ : HP} (h : gI σ 11 14 = ii k) : callF (d + 21) m_PL_needArgument [.ref 11, .int (b2 false)] σ = some (.inr 1, rfA σ (k + 1)) := by
  rw [e_PL_needArgument, b_PL_needArgument_0, if_neg (by decide), b_PL_needArgument_4 (by decide) (by omega), h, lit_ii, ii_add]
  rfl
theorem s_needSomT {d : Nat} {σ : HP} : callF (d + 1) m_PL_needSomebody [.ref 11, .int (b2 true)] σ = some (.inl none, σ) := by
  rw [e_PL_needSomebody, b_PL_needSomebody_0, if_pos (by decide), b_PL_needSomebody_25]
theorem s_needSomF {d k : Nat} {σ : HP} (h : gI σ 11 13 = ii k) : callF (d + 21) m_PL_needSomebody [.ref 11, .int (b2 false)] σ = some (.inr 0, rfN σ (k + 1)) := by
  rw [e_PL_needSomebody, b_PL_needSomebody_0, if_neg (by decide), b_PL_needSomebody_4 (by decide) (by omega), h, lit_ii, ii_add]
  rfl
/-- 0 <= x < n, as the class asks it -/
def inb (x : Int32) (n : Nat) : Bool := decide (ii 0 ≤ x ∧ x ≤ prI32 n)
theorem inb_T {x : Int32} {n : Nat} (h : inb x n = true) (hn : n < 2147483648) : ∃ k, k < n ∧ x = ii k := by
  have h1 := of_decide_eq_true h
  unfold prI32 at h1
  by_cases q : n = 0
  · rw [if_pos q] at h1
    have := Int32.le_trans h1.1 h1.2
    exact absurd this (by decide)
  · rw [if_neg q] at h1
    obtain ⟨k, hk, e⟩ := ii_of' (by omega) h1.1 h1.2
    exact ⟨k, by omega, e⟩
theorem inb_ii {k n : Nat} (hk : k < 2147483648) (hn : n < 2147483648) : inb (ii k) n = decide (k < n) := by
  unfold inb
  refine decide_eq_decide.mpr ?_
  unfold prI32
  by_cases q : n = 0
  · rw [if_pos q]
    constructor
    · intro z
      have := z.2
      rw [ng_le hk] at this
      exact this.elim
    · intro z; omega
  · rw [if_neg q, ii_le (by omega) hk, ii_le hk (by omega)]
    omega
theorem s_needMan {d : Nat} {σ : HP} {h l l2 b bq : Nat} {H : HH} {w : LW} {D : DN} {tp : TPE} {ct : CNT} {B : BK} {pw : PW} {im : IMS} (A : CX σ h l l2 b bq H w D tp ct B pw im) (x : Int32) : callF (d + 23) m_PL_needMan [.ref 11, .int x] σ = if inb x (hm H) then some (.inl none, σ) else some (.inr 0, rfN σ (ct.2.2.1 + 1)) := by
  obtain ⟨cf, cn, cr, ⟨i1, i2, i3, i4, i5⟩, cl, ba, pa, ta, m0, t1, t2, t3⟩ := A
  have a2 := cf.1.2.2.1
  have c0 : gR σ 197 0 = some (2 + 64 * h) := cl.1
  have c1 : gI σ (2 + 64 * h) 1 = ii (hm H) := cl.2.2.2.1.2.1
  have hw : ∀ d, callF (d + 1) m_PL_isWithin [.int x, .int (ii 0), .int (prI32 (hm H))] σ = some (.inl (some (.int (b2 (inb x (hm H))))), σ) := fun d => s_within
  cases hb : inb x (hm H) with
  | true =>
    rw [hb] at hw
    rw [if_pos rfl]
    simp (disch := first | omega | exact b2_01 _ | exact ii0_01 | exact ii1_01 | (simp (disch := omega) only [a2, c0, dr_some, Option.isSome_some, gR_wI, Nat.add_mul_mod_self_left, Nat.reduceMod, ak20, ak21, ak22, ak23, ak24, ak25, ak26, ak27, ak28, ak29, ak30, ak31, ak32, ak33, ak34, ak35, ak36, an20, an21, an22, an23, an24, an25, an26, an27, an28, an29, an30, an31, an32, an33, an34, an35, an36, an37, an38, ne_eq, inR_ii, decide_eq_true_eq, lit_ii, of_ii, ii_eq, ii_lt, ii_le]; first | done | omega)) only [a2, c0, e_PL_needMan, b_PL_needMan_0, b_PL_needMan_18, b_PL_needMan_21, c1, pr_sub, hw, s_needSomT, dr_some, Option.isSome_some, gR_wI, Nat.add_mul_mod_self_left, Nat.reduceMod, ak20, ak21, ak22, ak23, ak24, ak25, ak26, ak27, ak28, ak29, ak30, ak31, ak32, ak33, ak34, ak35, ak36, an20, an21, an22, an23, an24, an25, an26, an27, an28, an29, an30, an31, an32, an33, an34, an35, an36, an37, an38, ↓reduceIte, bk_int, bk_void, bk_long, bkN_int, bkN_void, bkN_long, Nat.reduceAdd, Nat.reduceMul, Nat.reduceSub, Nat.reduceLT, Nat.reduceLeDiff, if_true, if_false, not_true_eq_false, not_false_eq_true, Bool.true_eq_false, Bool.false_eq_true, b2_eq0, Nat.add_zero, Nat.zero_add, Nat.not_lt_zero, Nat.zero_le, ite_true, ite_false, decide_true, decide_false, lit_ii, of_ii, le_T, le_F, lt_T, lt_F, eq_T, eq_F, ii_add, ii_mul, ii_nat, ii_le, ii_lt, ii_eq, inR_ii, ii_add0]
  | false =>
    rw [hb] at hw
    have nf := fun d => s_needSomF (d := d) i4
    rw [if_neg (by decide)]
    simp (disch := first | omega | exact b2_01 _ | exact ii0_01 | exact ii1_01 | (simp (disch := omega) only [a2, c0, dr_some, Option.isSome_some, gR_wI, Nat.add_mul_mod_self_left, Nat.reduceMod, ak20, ak21, ak22, ak23, ak24, ak25, ak26, ak27, ak28, ak29, ak30, ak31, ak32, ak33, ak34, ak35, ak36, an20, an21, an22, an23, an24, an25, an26, an27, an28, an29, an30, an31, an32, an33, an34, an35, an36, an37, an38, ne_eq, inR_ii, decide_eq_true_eq, lit_ii, of_ii, ii_eq, ii_lt, ii_le]; first | done | omega)) only [a2, c0, e_PL_needMan, b_PL_needMan_0, b_PL_needMan_18, b_PL_needMan_21, c1, pr_sub, hw, nf, bk_thr (m := m_PL_needMan) rfl, dr_some, Option.isSome_some, gR_wI, Nat.add_mul_mod_self_left, Nat.reduceMod, ak20, ak21, ak22, ak23, ak24, ak25, ak26, ak27, ak28, ak29, ak30, ak31, ak32, ak33, ak34, ak35, ak36, an20, an21, an22, an23, an24, an25, an26, an27, an28, an29, an30, an31, an32, an33, an34, an35, an36, an37, an38, ↓reduceIte, bk_int, bk_void, bk_long, bkN_int, bkN_void, bkN_long, Nat.reduceAdd, Nat.reduceMul, Nat.reduceSub, Nat.reduceLT, Nat.reduceLeDiff, if_true, if_false, not_true_eq_false, not_false_eq_true, Bool.true_eq_false, Bool.false_eq_true, b2_eq0, Nat.add_zero, Nat.zero_add, Nat.not_lt_zero, Nat.zero_le, ite_true, ite_false, decide_true, decide_false, lit_ii, of_ii, le_T, le_F, lt_T, lt_F, eq_T, eq_F, ii_add, ii_mul, ii_nat, ii_le, ii_lt, ii_eq, inR_ii, ii_add0]
theorem s_needCard {d : Nat} {σ : HP} {h l l2 b bq : Nat} {H : HH} {w : LW} {D : DN} {tp : TPE} {ct : CNT} {B : BK} {pw : PW} {im : IMS} (A : CX σ h l l2 b bq H w D tp ct B pw im) (x : Int32) : callF (d + 23) m_PL_needCard [.ref 11, .int x] σ = if inb x (hc H) then some (.inl none, σ) else some (.inr 0, rfN σ (ct.2.2.1 + 1)) := by
  obtain ⟨cf, cn, cr, ⟨i1, i2, i3, i4, i5⟩, cl, ba, pa, ta, m0, t1, t2, t3⟩ := A
  have a2 := cf.1.2.2.1
  have c0 : gR σ 197 0 = some (2 + 64 * h) := cl.1
  have c1 : gI σ (2 + 64 * h) 2 = ii (hc H) := cl.2.2.2.1.2.2.1
  have hw : ∀ d, callF (d + 1) m_PL_isWithin [.int x, .int (ii 0), .int (prI32 (hc H))] σ = some (.inl (some (.int (b2 (inb x (hc H))))), σ) := fun d => s_within
  cases hb : inb x (hc H) with
  | true =>
    rw [hb] at hw
    rw [if_pos rfl]
    simp (disch := first | omega | exact b2_01 _ | exact ii0_01 | exact ii1_01 | (simp (disch := omega) only [a2, c0, dr_some, Option.isSome_some, gR_wI, Nat.add_mul_mod_self_left, Nat.reduceMod, ak20, ak21, ak22, ak23, ak24, ak25, ak26, ak27, ak28, ak29, ak30, ak31, ak32, ak33, ak34, ak35, ak36, an20, an21, an22, an23, an24, an25, an26, an27, an28, an29, an30, an31, an32, an33, an34, an35, an36, an37, an38, ne_eq, inR_ii, decide_eq_true_eq, lit_ii, of_ii, ii_eq, ii_lt, ii_le]; first | done | omega)) only [a2, c0, e_PL_needCard, b_PL_needCard_0, b_PL_needCard_18, b_PL_needCard_21, c1, pr_sub, hw, s_needSomT, dr_some, Option.isSome_some, gR_wI, Nat.add_mul_mod_self_left, Nat.reduceMod, ak20, ak21, ak22, ak23, ak24, ak25, ak26, ak27, ak28, ak29, ak30, ak31, ak32, ak33, ak34, ak35, ak36, an20, an21, an22, an23, an24, an25, an26, an27, an28, an29, an30, an31, an32, an33, an34, an35, an36, an37, an38, ↓reduceIte, bk_int, bk_void, bk_long, bkN_int, bkN_void, bkN_long, Nat.reduceAdd, Nat.reduceMul, Nat.reduceSub, Nat.reduceLT, Nat.reduceLeDiff, if_true, if_false, not_true_eq_false, not_false_eq_true, Bool.true_eq_false, Bool.false_eq_true, b2_eq0, Nat.add_zero, Nat.zero_add, Nat.not_lt_zero, Nat.zero_le, ite_true, ite_false, decide_true, decide_false, lit_ii, of_ii, le_T, le_F, lt_T, lt_F, eq_T, eq_F, ii_add, ii_mul, ii_nat, ii_le, ii_lt, ii_eq, inR_ii, ii_add0]
  | false =>
    rw [hb] at hw
    have nf := fun d => s_needSomF (d := d) i4
    rw [if_neg (by decide)]
    simp (disch := first | omega | exact b2_01 _ | exact ii0_01 | exact ii1_01 | (simp (disch := omega) only [a2, c0, dr_some, Option.isSome_some, gR_wI, Nat.add_mul_mod_self_left, Nat.reduceMod, ak20, ak21, ak22, ak23, ak24, ak25, ak26, ak27, ak28, ak29, ak30, ak31, ak32, ak33, ak34, ak35, ak36, an20, an21, an22, an23, an24, an25, an26, an27, an28, an29, an30, an31, an32, an33, an34, an35, an36, an37, an38, ne_eq, inR_ii, decide_eq_true_eq, lit_ii, of_ii, ii_eq, ii_lt, ii_le]; first | done | omega)) only [a2, c0, e_PL_needCard, b_PL_needCard_0, b_PL_needCard_18, b_PL_needCard_21, c1, pr_sub, hw, nf, bk_thr (m := m_PL_needCard) rfl, dr_some, Option.isSome_some, gR_wI, Nat.add_mul_mod_self_left, Nat.reduceMod, ak20, ak21, ak22, ak23, ak24, ak25, ak26, ak27, ak28, ak29, ak30, ak31, ak32, ak33, ak34, ak35, ak36, an20, an21, an22, an23, an24, an25, an26, an27, an28, an29, an30, an31, an32, an33, an34, an35, an36, an37, an38, ↓reduceIte, bk_int, bk_void, bk_long, bkN_int, bkN_void, bkN_long, Nat.reduceAdd, Nat.reduceMul, Nat.reduceSub, Nat.reduceLT, Nat.reduceLeDiff, if_true, if_false, not_true_eq_false, not_false_eq_true, Bool.true_eq_false, Bool.false_eq_true, b2_eq0, Nat.add_zero, Nat.zero_add, Nat.not_lt_zero, Nat.zero_le, ite_true, ite_false, decide_true, decide_false, lit_ii, of_ii, le_T, le_F, lt_T, lt_F, eq_T, eq_F, ii_add, ii_mul, ii_nat, ii_le, ii_lt, ii_eq, inR_ii, ii_add0]
