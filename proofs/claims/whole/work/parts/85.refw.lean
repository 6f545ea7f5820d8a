/-! THE REFERENCE: the whole object -/
def Fm (S : Nat → Nat → Prop) (σ σ' : HP) : Prop := σ'.1 = σ.1 ∧ σ'.2.2 = σ.2.2 ∧ ∀ a j, ¬ S a j → gI σ' a j = gI σ a j
theorem Fm.rf {S : Nat → Nat → Prop} {σ : HP} : Fm S σ σ := ⟨rfl, rfl, fun _ _ _ => rfl⟩
theorem Fm.tr {S : Nat → Nat → Prop} {σ σ' σ'' : HP} (h : Fm S σ σ') (h' : Fm S σ' σ'') : Fm S σ σ'' :=
  ⟨h'.1.trans h.1, h'.2.1.trans h.2.1, fun a j q => (h'.2.2 a j q).trans (h.2.2 a j q)⟩
theorem Fm.mono {S S' : Nat → Nat → Prop} {σ σ' : HP} (h : Fm S σ σ') (hp : ∀ a j, S a j → S' a j) : Fm S' σ σ' :=
  ⟨h.1, h.2.1, fun a j q => h.2.2 a j (fun z => q (hp a j z))⟩
theorem Fm.w {S : Nat → Nat → Prop} {σ σ' : HP} {a j : Nat} {v : Int32} (h : Fm S σ σ') (hp : S a j) : Fm S σ (wI σ' a j v) :=
  ⟨h.1, h.2.1, fun b k q => by
    rw [gI_wI, if_neg ?_]
    · exact h.2.2 b k q
    · rintro ⟨rfl, rfl⟩
      exact q hp⟩
theorem Fs.fm {S : Nat → Prop} {S' : Nat → Nat → Prop} {σ σ' : HP} (h : Fs S σ σ') (hp : ∀ a j, S a → S' a j) : Fm S' σ σ' :=
  ⟨h.1, h.2.1, fun a j q => h.2.2 a j (fun z => q (hp a j z))⟩
theorem Fm.fs {S : Nat → Nat → Prop} {S' : Nat → Prop} {σ σ' : HP} (h : Fm S σ σ') (hp : ∀ a j, S a j → S' a) : Fs S' σ σ' :=
  ⟨h.1, h.2.1, fun a j q => h.2.2 a j (fun z => q (hp a j z))⟩
theorem Fm.I {S : Nat → Nat → Prop} {σ σ' : HP} (h : Fm S σ σ') {a j : Nat} (q : ¬ S a j) : gI σ' a j = gI σ a j := h.2.2 a j q
theorem Fm.R {S : Nat → Nat → Prop} {σ σ' : HP} (h : Fm S σ σ') (a j : Nat) : gR σ' a j = gR σ a j := by
  unfold gR
  rw [h.2.1]
def Mdl (a : Nat) : Prop := 62 ≤ a / 64 ∧ a / 64 < 87
def OKm (σ σ' : HP) : Prop := Fx Mdl σ σ' ∧ hN σ' = hN σ ∧ hS σ' = hS σ
theorem OKm.rf {σ : HP} : OKm σ σ := ⟨Fx.rf, rfl, rfl⟩
theorem OKm.fs {S : Nat → Prop} {σ σ' : HP} (F : Fs S σ σ') (h : ∀ a, S a → Mdl a) : OKm σ σ' := ⟨F.x.mono h, F.N, F.Z⟩
theorem OKm.tr {σ σ' σ'' : HP} (F : OKm σ σ') (G : OKm σ' σ'') : OKm σ σ'' := ⟨F.1.tr G.1, G.2.1.trans F.2.1, G.2.2.trans F.2.2⟩
/-- what is used up -/
def Msc (a j : Nat) : Prop := a = 4185 ∨ a = 4248 ∨ a = 4445 ∨ a = 4509 ∨ a = 4701 ∨ a = 4759 ∨ a = 4829 ∨ a = 4893 ∨ a = 5019 ∨ a = 5141 ∨ a = 5270 ∨ a = 5340 ∨ a = 5407 ∨ (a = 3980 ∧ (j = 0 ∨ (3 ≤ j ∧ j ≤ 7) ∨ (14 ≤ j ∧ j ≤ 17) ∨ j = 27 ∨ j = 32 ∨ (35 ≤ j ∧ j ≤ 37) ∨ j = 48))
theorem Fm.okm {σ σ' : HP} (F : Fm Msc σ σ') : OKm σ σ' := OKm.fs (F.fs (S' := Mdl) (fun a j z => by unfold Msc at z; unfold Mdl; omega)) (fun a z => z)
def MT (σ : HP) (tp : TPE) : Prop := gI σ 3980 2 = ii tp.1 ∧ tp.1 ≤ 600 ∧ ∀ i, i < 600 → gI σ 4126 i = ii (tp.2 i) ∧ tp.2 i < 256
def MC (σ : HP) (ct : CNT) : Prop := gI σ 3980 8 = ct.1 ∧ gI σ 3980 34 = ii ct.2.1 ∧ gI σ 4052 0 = ii ct.2.2.1 ∧ gI σ 4052 1 = ii ct.2.2.2
def MB (σ : HP) (B : BK) : Prop := gI σ 3980 43 = ii B.1 ∧ (∀ m, m < 7 → gI σ 5205 m = oi (B.2 m)) ∧ ∀ m v, B.2 m = some v → v ≤ 999
def MP (σ : HP) (pw : PW) : Prop := gI σ 3980 33 = ii pw.1 ∧ pw.1 ≤ 16 ∧ ∀ i, i < pw.1 → ∀ k, k < 87 → gI σ 5088 (87 * i + k) = ii (pw.2 i k)
def MI (σ : HP) (im : IMS) : Prop := gI σ 3980 50 = ii im.1 ∧ im.1 ≤ 3 ∧ ∀ i, i < im.1 → (∀ k, k < 87 → gI σ 5537 (1480 * i + k) = ii ((im.2 i).1 k)) ∧ gI σ 5537 (1480 * i + 1479) = ii (im.2 i).2.1 ∧ ∀ j, j < (im.2 i).2.1 → ∀ k, k < 87 → gI σ 5537 (1480 * i + 87 + (87 * j + k)) = ii ((im.2 i).2.2 j k)
def MW (σ : HP) (H : HH) (w : LW) (D : DN) (tp : TPE) (ct : CNT) (B : BK) (pw : PW) (im : IMS) : Prop := MRf σ ∧ MH σ H ∧ ML σ w ∧ MD σ 4955 D ∧ (wH H ∧ wL w ∧ wD H D ∧ D 86 ≤ 400 ∧ wP H pw im) ∧ MT σ tp ∧ MC σ ct ∧ MB σ B ∧ MP σ pw ∧ MI σ im
theorem MH.fm {S : Nat → Nat → Prop} {σ σ' : HP} {H : HH} (A : MH σ H) (F : Fm S σ σ') (h1 : ∀ j, 18 ≤ j ∧ j ≤ 21 → ¬ S 3980 j) (h2 : ∀ j, ¬ S 4313 j) (h3 : ∀ j, ¬ S 4376 j) : MH σ' H := by
  obtain ⟨a1, a2, a3, a4, a5, a6⟩ := A
  exact ⟨(F.I (h1 _ (by omega))).trans a1, (F.I (h1 _ (by omega))).trans a2, (F.I (h1 _ (by omega))).trans a3, (F.I (h1 _ (by omega))).trans a4, fun k hk => (F.I (h2 _)).trans (a5 k hk), fun k hk => (F.I (h3 _)).trans (a6 k hk)⟩
theorem ML.fm {S : Nat → Nat → Prop} {σ σ' : HP} {w : LW} (A : ML σ w) (F : Fm S σ σ') (h1 : ¬ S 3980 28) (h2 : ∀ j, ¬ S 4573 j) (h3 : ∀ j, ¬ S 4637 j) : ML σ' w := by
  rcases A with ⟨a, b⟩ | ⟨a, b⟩
  · exact Or.inl ⟨(F.I h1).trans a, b⟩
  · exact Or.inr ⟨(F.I h1).trans a, fun k hk => ⟨(F.I (h2 _)).trans (b k hk).1, (F.I (h3 _)).trans (b k hk).2⟩⟩
theorem MD.fm {S : Nat → Nat → Prop} {σ σ' : HP} {a : Nat} {D : Nat → Nat} (A : MD σ a D) (F : Fm S σ σ') (h : ∀ j, ¬ S a j) : MD σ' a D := fun k hk => (F.I (h k)).trans (A k hk)
theorem MT.fm {S : Nat → Nat → Prop} {σ σ' : HP} {tp : TPE} (A : MT σ tp) (F : Fm S σ σ') (h1 : ¬ S 3980 2) (h2 : ∀ j, ¬ S 4126 j) : MT σ' tp :=
  ⟨(F.I h1).trans A.1, A.2.1, fun i hi => ⟨(F.I (h2 i)).trans (A.2.2 i hi).1, (A.2.2 i hi).2⟩⟩
theorem MC.fm {S : Nat → Nat → Prop} {σ σ' : HP} {ct : CNT} (A : MC σ ct) (F : Fm S σ σ') (h1 : ¬ S 3980 8) (h2 : ¬ S 3980 34) (h3 : ∀ j, ¬ S 4052 j) : MC σ' ct :=
  ⟨(F.I h1).trans A.1, (F.I h2).trans A.2.1, (F.I (h3 0)).trans A.2.2.1, (F.I (h3 1)).trans A.2.2.2⟩
theorem MB.fm {S : Nat → Nat → Prop} {σ σ' : HP} {B : BK} (A : MB σ B) (F : Fm S σ σ') (h1 : ¬ S 3980 43) (h2 : ∀ j, ¬ S 5205 j) : MB σ' B :=
  ⟨(F.I h1).trans A.1, fun m hm => (F.I (h2 m)).trans (A.2.1 m hm), A.2.2⟩
theorem MP.fm {S : Nat → Nat → Prop} {σ σ' : HP} {pw : PW} (A : MP σ pw) (F : Fm S σ σ') (h1 : ¬ S 3980 33) (h2 : ∀ j, ¬ S 5088 j) : MP σ' pw :=
  ⟨(F.I h1).trans A.1, A.2.1, fun i hi k hk => (F.I (h2 _)).trans (A.2.2 i hi k hk)⟩
theorem MI.fm {S : Nat → Nat → Prop} {σ σ' : HP} {im : IMS} (A : MI σ im) (F : Fm S σ σ') (h1 : ¬ S 3980 50) (h2 : ∀ j, ¬ S 5537 j) : MI σ' im :=
  ⟨(F.I h1).trans A.1, A.2.1, fun i hi => ⟨fun k hk => (F.I (h2 _)).trans ((A.2.2 i hi).1 k hk), (F.I (h2 _)).trans (A.2.2 i hi).2.1, fun j hj k hk => (F.I (h2 _)).trans ((A.2.2 i hi).2.2 j hj k hk)⟩⟩
theorem MRf.fm {S : Nat → Nat → Prop} {σ σ' : HP} (A : MRf σ) (F : Fm S σ σ') : MRf σ' := A.of (fun j => F.R _ j)
theorem MW.sc {σ : HP} {H : HH} {w : LW} {D : DN} {tp : TPE} {ct : CNT} {B : BK} {pw : PW} {im : IMS} (A : MW σ H w D tp ct B pw im) {σ' : HP} (F : Fm Msc σ σ') : MW σ' H w D tp ct B pw im := by
  obtain ⟨a, b, c, e, f, g, h, i, j, k⟩ := A
  exact ⟨a.fm F, b.fm F (fun j z => by unfold Msc; omega) (fun j => by unfold Msc; omega) (fun j => by unfold Msc; omega), c.fm F (by unfold Msc; omega) (fun j => by unfold Msc; omega) (fun j => by unfold Msc; omega), e.fm F (fun j => by unfold Msc; omega), f, g.fm F (by unfold Msc; omega) (fun j => by unfold Msc; omega), h.fm F (by unfold Msc; omega) (by unfold Msc; omega) (fun j => by unfold Msc; omega), i.fm F (by unfold Msc; omega) (fun j => by unfold Msc; omega), j.fm F (by unfold Msc; omega) (fun j => by unfold Msc; omega), k.fm F (by unfold Msc; omega) (fun j => by unfold Msc; omega)⟩
/-- a call of the reference: what it answers, what it refuses, the world behind it -/
def MQi (σ : HP) (r : Option Res) (v : Int32) (k : Nat) (X : HP → Prop) : Prop := ∃ σ', r = some (.inl (some (.int v)), σ') ∧ OKm σ σ' ∧ gI σ' 3980 0 = ii k ∧ X σ'
theorem MW.rd {σ : HP} {H : HH} {w : LW} {D : DN} {tp : TPE} {ct : CNT} {B : BK} {pw : PW} {im : IMS} (A : MW σ H w D tp ct B pw im) {σ' : HP} {r : Option Res} {v : Int32} (F : Fm Msc σ σ') (h0 : gI σ' 3980 0 = ii 0) (e : r = some (.inl (some (.int v)), σ')) : MQi σ r v 0 (fun τ => MW τ H w D tp ct B pw im) := ⟨σ', e, F.okm, h0, A.sc F⟩
theorem t0_fm {σ : HP} {v : Int32} : Fm Msc σ (wI σ 3980 0 v) := Fm.w Fm.rf (by unfold Msc; omega)
theorem t0_at {σ : HP} {v : Int32} : gI (wI σ 3980 0 v) 3980 0 = v := gI_at
theorem t0_ne {σ : HP} {v : Int32} {j : Nat} (h : j ≠ 0) : gI (wI σ 3980 0 v) 3980 j = gI σ 3980 j := gI_nj h
theorem t0_na {σ : HP} {v : Int32} {a j : Nat} (h : a ≠ 3980) : gI (wI σ 3980 0 v) a j = gI σ a j := gI_ne h
theorem r_copies {d a b n : Nat} {σ : HP} (ha : aty (a % 64) = 1) (hb : aty (b % 64) = 1) (hna : n ≤ alen (a % 64)) (hnb : n ≤ alen (b % 64)) (hab : a ≠ b) : ∃ σ', callF (d + 1) m_Mo_copies [.ref 3980, .ref a, .ref b, .int (ii n)] σ = some (.inl none, σ') ∧ Fs (fun x => x = b) σ σ' ∧ (∀ k, k < n → gI σ' b k = gI σ a k) ∧ ∀ k, n ≤ k → gI σ' b k = gI σ b k := by
  have h9 : alen (a % 64) ≤ 4440 := alen_le _ (Nat.mod_lt _ (by decide))
  rw [e_Mo_copies, b_Mo_copies_0]
  refine loop_g (N := n) (Q := fun o => ∃ σ', o = some (.inl none, σ') ∧ Fs (fun x => x = b) σ σ' ∧ (∀ k, k < n → gI σ' b k = gI σ a k) ∧ ∀ k, n ≤ k → gI σ' b k = gI σ b k) (fun i c => ∃ σ', c = (3, [some (.ref 3980), some (.ref a), some (.ref b), some (.int (ii n)), some (.int (ii i))], [], σ') ∧ Fs (fun x => x = b) σ σ' ∧ (∀ k, k < i → gI σ' b k = gI σ a k) ∧ ∀ k, i ≤ k → gI σ' b k = gI σ b k) ?_ ?_ 0 _ (Nat.zero_le _) ⟨σ, rfl, Fs.rf, fun k hk => by omega, fun k hk => rfl⟩
  · rintro i c hi ⟨σ', rfl, F, q1, q2⟩
    have hk' : ¬ n ≤ i := by omega
    have ea : gI σ' a i = gI σ a i := F.I hab
    have r1 : inR (ii i) (alen (a % 64)) = true := by rw [inR_ii (by omega)]; exact decide_eq_true (by omega)
    have r2 : inR (ii i) (alen (b % 64)) = true := by rw [inR_ii (by omega)]; exact decide_eq_true (by omega)
    refine ⟨_, ?_, wI σ' b i (gI σ a i), rfl, F.w rfl, fun k hk => ?_, fun k hk => ?_⟩
    · rw [b_Mo_copies_3, if_neg (by rw [ii_le (by omega) (by omega)]; exact hk'), b_Mo_copies_9 ha r1 hb r2, ii_nat (by omega), ea, lit_ii 1, ii_add]
    · rw [gI_row]
      by_cases z : k = i
      · rw [if_pos z, z]
      · rw [if_neg z]
        exact q1 k (by omega)
    · rw [gI_row, if_neg (by omega)]
      exact q2 k (by omega)
  · rintro c ⟨σ', rfl, F, q1, q2⟩
    refine ⟨σ', ?_, F, q1, q2⟩
    rw [b_Mo_copies_3, if_pos (by rw [ii_le (by omega) (by omega)]; exact Nat.le_refl _), b_Mo_copies_23]
theorem r_take {d : Nat} {σ : HP} {H : HH} {w : LW} {D : DN} {tp : TPE} {ct : CNT} {B : BK} {pw : PW} {im : IMS} (A : MW σ H w D tp ct B pw im) : ∃ σ', callF (d + 2) m_Mo_take [.ref 3980] σ = some (.inl none, σ') ∧ MS σ' H w D ∧ MW σ' H w D tp ct B pw im ∧ Fs (fun x => x = 5019) σ σ' := by
  have a := A.1
  obtain ⟨σ', e, F, q1, -⟩ := r_copies (d := d) (a := 4955) (b := 5019) (n := 87) (σ := σ) rfl rfl (by decide) (by decide) (by decide)
  have F' : Fm Msc σ σ' := F.fm (fun a j z => by unfold Msc; omega)
  have A' := A.sc F'
  refine ⟨σ', ?_, ⟨A'.1, A'.2.1, A'.2.2.1, fun k hk => (q1 k hk).trans (A.2.2.2.1 k hk), A.2.2.2.2.1.1, A.2.2.2.2.1.2.1, A.2.2.2.2.1.2.2.1⟩, A', F⟩
  obtain ⟨z1, z9, z10, z11, z12, z13, z22, z23, z24, z25, z26, z29, z30, z31, z38, z39, z40, z41, z42, z44, z45, z46, z47, z49⟩ := id a
  simp (disch := first | omega | exact ak27 | exact ak29 | exact ak20 | exact ak21 | exact ak22 | exact ak23 | exact ak24 | exact ak25 | exact ak28 | exact ak30 | exact ak31 | exact ak32 | exact ak33 | exact b2_01 _ | exact ii0_01 | exact ii1_01 | (simp (disch := omega) only [z1, z9, z10, z11, z12, z13, z22, z23, z24, z25, z26, z29, z30, z31, z38, z39, z40, z41, z42, z44, z45, z46, z47, z49, e, dr_some, Option.isSome_some, gR_wI, Nat.add_mul_mod_self_left, Nat.reduceMod, ak20, ak21, ak22, ak23, ak24, ak25, ak26, ak27, ak28, ak29, ak30, ak31, ak32, ak33, ak34, ak35, ak36, an20, an21, an22, an23, an24, an25, an26, an27, an28, an29, an30, an31, an32, an33, an34, an35, an36, an37, an38, ne_eq, inR_ii, decide_eq_true_eq, lit_ii, of_ii, ii_eq, ii_lt, ii_le, ii_add, ii_mul, ii_sub, ii_pred, ii_nat]; first | done | omega)) only [z1, z9, z10, z11, z12, z13, z22, z23, z24, z25, z26, z29, z30, z31, z38, z39, z40, z41, z42, z44, z45, z46, z47, z49, e, e_Mo_take, b_Mo_take_0, b_Mo_take_14, dr_some, Option.isSome_some, gR_wI, Nat.add_mul_mod_self_left, Nat.reduceMod, ak20, ak21, ak22, ak23, ak24, ak25, ak26, ak27, ak28, ak29, ak30, ak31, ak32, ak33, ak34, ak35, ak36, an20, an21, an22, an23, an24, an25, an26, an27, an28, an29, an30, an31, an32, an33, an34, an35, an36, an37, an38, ↓reduceIte, bk_int, bk_void, bk_long, bkN_int, bkN_void, bkN_long, Nat.reduceAdd, Nat.reduceMul, Nat.reduceSub, Nat.reduceLT, Nat.reduceLeDiff, if_true, if_false, not_true_eq_false, not_false_eq_true, Bool.true_eq_false, Bool.false_eq_true, b2_eq0, Nat.add_zero, Nat.zero_add, Nat.not_lt_zero, Nat.zero_le, ite_true, ite_false, decide_true, decide_false, lit_ii, of_ii, le_T, le_F, lt_T, lt_F, eq_T, eq_F, ii_add, ii_mul, ii_nat, ii_le, ii_lt, ii_eq, inR_ii, ii_add0]
/-- a call that looks at the days: the rest of it, behind `take` -/
theorem r_take0 {d : Nat} {σ : HP} {H : HH} {w : LW} {D : DN} {tp : TPE} {ct : CNT} {B : BK} {pw : PW} {im : IMS} (A : MW σ H w D tp ct B pw im) : ∃ σ', callF (d + 2) m_Mo_take [.ref 3980] (wI σ 3980 0 (ii 0)) = some (.inl none, σ') ∧ MS σ' H w D ∧ MW σ' H w D tp ct B pw im ∧ Fm Msc σ σ' ∧ gI σ' 3980 0 = ii 0 := by
  obtain ⟨σ', e, S, W, F⟩ := r_take (d := d) (A.sc (t0_fm (v := ii 0)))
  exact ⟨σ', e, S, W, t0_fm.tr (F.fm (fun a j z => by unfold Msc; omega)), (F.I (by omega)).trans t0_at⟩
/-! refusals -/
def rfM (σ : HP) (c k n : Nat) : HP := wI (wI σ 3980 0 (ii c)) 4052 k (ii n)
theorem r_mayT {d : Nat} {c k : Int32} {σ : HP} (h0 : gI σ 3980 0 = ii 0) : callF (d + 1) m_Mo_may [.ref 3980, .int (b2 true), .int c, .int k] σ = some (.inl (some (.int (ii 1))), σ) := by
  have e : b2 true = ii 1 := rfl
  rw [e]
  simp (disch := first | omega | exact b2_01 _ | exact ii0_01 | exact ii1_01 | (simp (disch := omega) only [h0, dr_some, Option.isSome_some, gR_wI, Nat.add_mul_mod_self_left, Nat.reduceMod, ak20, ak21, ak22, ak23, ak24, ak25, ak26, ak27, ak28, ak29, ak30, ak31, ak32, ak33, ak34, ak35, ak36, an20, an21, an22, an23, an24, an25, an26, an27, an28, an29, an30, an31, an32, an33, an34, an35, an36, an37, an38, ne_eq, inR_ii, decide_eq_true_eq, lit_ii, of_ii, ii_eq, ii_lt, ii_le]; first | done | omega)) only [h0, e_Mo_may, b_Mo_may_0, b_Mo_may_4, b_Mo_may_11, b_Mo_may_26, b_Mo_may_33, b_Mo_may_37, b_Mo_may_38, Nat.succ_ne_zero, dr_some, Option.isSome_some, gR_wI, Nat.add_mul_mod_self_left, Nat.reduceMod, ak20, ak21, ak22, ak23, ak24, ak25, ak26, ak27, ak28, ak29, ak30, ak31, ak32, ak33, ak34, ak35, ak36, an20, an21, an22, an23, an24, an25, an26, an27, an28, an29, an30, an31, an32, an33, an34, an35, an36, an37, an38, ↓reduceIte, bk_int, bk_void, bk_long, bkN_int, bkN_void, bkN_long, Nat.reduceAdd, Nat.reduceMul, Nat.reduceSub, Nat.reduceLT, Nat.reduceLeDiff, if_true, if_false, not_true_eq_false, not_false_eq_true, Bool.true_eq_false, Bool.false_eq_true, b2_eq0, Nat.add_zero, Nat.zero_add, Nat.not_lt_zero, Nat.zero_le, ite_true, ite_false, decide_true, decide_false, lit_ii, of_ii, le_T, le_F, lt_T, lt_F, eq_T, eq_F, ii_add, ii_mul, ii_nat, ii_le, ii_lt, ii_eq, inR_ii, ii_add0]
theorem r_mayF {d c k n : Nat} {σ : HP} (a : MRf σ) (h0 : gI σ 3980 0 = ii 0) (hc : 1 ≤ c) (hc2 : c < 3) (hk : k < 2) (hn : gI σ 4052 k = ii n) : callF (d + 1) m_Mo_may [.ref 3980, .int (b2 false), .int (ii c), .int (ii k)] σ = some (.inl (some (.int (ii 0))), rfM σ c k (n + 1)) := by
  have e : b2 false = ii 0 := rfl
  have n0 : ¬ c = 0 := by omega
  have q1 : gI (wI σ 3980 0 (ii c)) 4052 k = ii n := (gI_ne (by omega)).trans hn
  have q2 : gI (wI (wI σ 3980 0 (ii c)) 4052 k (ii (n + 1))) 3980 0 = ii c := (gI_ne (by omega)).trans gI_at
  obtain ⟨z1, z9, z10, z11, z12, z13, z22, z23, z24, z25, z26, z29, z30, z31, z38, z39, z40, z41, z42, z44, z45, z46, z47, z49⟩ := id a
  unfold rfM
  rw [e]
  simp (disch := first | omega | exact ak27 | exact ak29 | exact ak20 | exact ak21 | exact ak22 | exact ak23 | exact ak24 | exact ak25 | exact ak28 | exact ak30 | exact ak31 | exact ak32 | exact ak33 | exact b2_01 _ | exact ii0_01 | exact ii1_01 | (simp (disch := omega) only [z1, z9, z10, z11, z12, z13, z22, z23, z24, z25, z26, z29, z30, z31, z38, z39, z40, z41, z42, z44, z45, z46, z47, z49, h0, q1, q2, dr_some, Option.isSome_some, gR_wI, Nat.add_mul_mod_self_left, Nat.reduceMod, ak20, ak21, ak22, ak23, ak24, ak25, ak26, ak27, ak28, ak29, ak30, ak31, ak32, ak33, ak34, ak35, ak36, an20, an21, an22, an23, an24, an25, an26, an27, an28, an29, an30, an31, an32, an33, an34, an35, an36, an37, an38, ne_eq, inR_ii, decide_eq_true_eq, lit_ii, of_ii, ii_eq, ii_lt, ii_le, ii_add, ii_mul, ii_sub, ii_pred, ii_nat]; first | done | omega)) only [z1, z9, z10, z11, z12, z13, z22, z23, z24, z25, z26, z29, z30, z31, z38, z39, z40, z41, z42, z44, z45, z46, z47, z49, h0, q1, q2, e_Mo_may, b_Mo_may_0, b_Mo_may_4, b_Mo_may_11, b_Mo_may_26, b_Mo_may_33, b_Mo_may_37, b_Mo_may_38, n0, dr_some, Option.isSome_some, gR_wI, Nat.add_mul_mod_self_left, Nat.reduceMod, ak20, ak21, ak22, ak23, ak24, ak25, ak26, ak27, ak28, ak29, ak30, ak31, ak32, ak33, ak34, ak35, ak36, an20, an21, an22, an23, an24, an25, an26, an27, an28, an29, an30, an31, an32, an33, an34, an35, an36, an37, an38, ↓reduceIte, bk_int, bk_void, bk_long, bkN_int, bkN_void, bkN_long, Nat.reduceAdd, Nat.reduceMul, Nat.reduceSub, Nat.reduceLT, Nat.reduceLeDiff, if_true, if_false, not_true_eq_false, not_false_eq_true, Bool.true_eq_false, Bool.false_eq_true, b2_eq0, Nat.add_zero, Nat.zero_add, Nat.not_lt_zero, Nat.zero_le, ite_true, ite_false, decide_true, decide_false, lit_ii, of_ii, le_T, le_F, lt_T, lt_F, eq_T, eq_F, ii_add, ii_mul, ii_nat, ii_le, ii_lt, ii_eq, inR_ii, ii_add0]
theorem MC.rf {σ : HP} {ct : CNT} {c k : Nat} (A : MC σ ct) (hk : k = 0 ∨ k = 1) : MC (rfM σ c k ((if k = 0 then ct.2.2.1 else ct.2.2.2) + 1)) (ct.1, ct.2.1, if k = 0 then (ct.2.2.1 + 1, ct.2.2.2) else (ct.2.2.1, ct.2.2.2 + 1)) := by
  obtain ⟨a, b, e, f⟩ := A
  unfold rfM
  refine ⟨?_, ?_, ?_, ?_⟩
  · rw [gI_ne (by omega), gI_nj (by omega)]; exact a
  · rw [gI_ne (by omega), gI_nj (by omega)]; exact b
  · rcases hk with rfl | rfl
    · exact gI_at
    · rw [gI_nj (by omega), gI_ne (by omega)]; exact e
  · rcases hk with rfl | rfl
    · rw [gI_nj (by omega), gI_ne (by omega)]; exact f
    · exact gI_at
theorem MW.rf {σ : HP} {H : HH} {w : LW} {D : DN} {tp : TPE} {ct : CNT} {B : BK} {pw : PW} {im : IMS} (A : MW σ H w D tp ct B pw im) {c k : Nat} (hk : k = 0 ∨ k = 1) : MW (rfM σ c k ((if k = 0 then ct.2.2.1 else ct.2.2.2) + 1)) H w D tp (ct.1, ct.2.1, if k = 0 then (ct.2.2.1 + 1, ct.2.2.2) else (ct.2.2.1, ct.2.2.2 + 1)) B pw im := by
  obtain ⟨a, b, ca, e, f, g, h, i, j, l⟩ := A
  have F : ∀ n, Fm (fun a j => a = 4052 ∨ (a = 3980 ∧ j = 0)) σ (rfM σ c k n) := fun n => Fm.w (Fm.w Fm.rf (by omega)) (by omega)
  exact ⟨a.fm (F _), b.fm (F _) (fun j z => by omega) (fun j => by omega) (fun j => by omega), ca.fm (F _) (by omega) (fun j => by omega) (fun j => by omega), e.fm (F _) (fun j => by omega), f, g.fm (F _) (by omega) (fun j => by omega), h.rf hk, i.fm (F _) (by omega) (fun j => by omega), j.fm (F _) (by omega) (fun j => by omega), l.fm (F _) (by omega) (fun j => by omega)⟩
theorem rfM_ok {σ : HP} {c k n : Nat} : OKm σ (rfM σ c k n) := OKm.fs (S := Mdl) (Fs.w (Fs.w Fs.rf (by unfold Mdl; omega)) (by unfold Mdl; omega)) (fun a z => z)
/-- refused for an argument: code c -/
theorem MW.bad {σ : HP} {H : HH} {w : LW} {D : DN} {tp : TPE} {ct : CNT} {B : BK} {pw : PW} {im : IMS} (A : MW σ H w D tp ct B pw im) {c : Nat} {σ' : HP} {r : Option Res} (F : Fm Msc σ σ') (e : r = some (.inl (some (.int (ii 0))), rfM σ' c 1 (ct.2.2.2 + 1))) : MQi σ r (ii 0) c (fun τ => MW τ H w D tp (ct.1, ct.2.1, ct.2.2.1, ct.2.2.2 + 1) B pw im) :=
  ⟨_, e, F.okm.tr rfM_ok, (gI_ne (by omega)).trans gI_at, (A.sc F).rf (c := c) (k := 1) (Or.inr rfl)⟩
theorem MW.nob {σ : HP} {H : HH} {w : LW} {D : DN} {tp : TPE} {ct : CNT} {B : BK} {pw : PW} {im : IMS} (A : MW σ H w D tp ct B pw im) {c : Nat} {σ' : HP} {r : Option Res} (F : Fm Msc σ σ') (e : r = some (.inl (some (.int (ii 0))), rfM σ' c 0 (ct.2.2.1 + 1))) : MQi σ r (ii 0) c (fun τ => MW τ H w D tp (ct.1, ct.2.1, ct.2.2.1 + 1, ct.2.2.2) B pw im) :=
  ⟨_, e, F.okm.tr rfM_ok, (gI_ne (by omega)).trans gI_at, (A.sc F).rf (c := c) (k := 0) (Or.inl rfl)⟩
theorem r_wr {d a b : Nat} {x : Int32} {σ : HP} : callF (d + 1) m_Mo_within [.int x, .int (ii a), .int (ii b)] σ = some (.inl (some (.int (b2 (inrg a b x)))), σ) := r_within
theorem ii_pr {n : Nat} (h : n < 2147483648) : ii n - ii 1 = prI32 n := by
  unfold prI32
  by_cases z : n = 0
  · rw [if_pos z, z]
    decide
  · rw [if_neg z, ii_sub (by omega)]
theorem r_wb {d n : Nat} {x : Int32} {σ : HP} : callF (d + 1) m_Mo_within [.int x, .int (ii 0), .int (prI32 n)] σ = some (.inl (some (.int (b2 (inb x n)))), σ) := r_within
