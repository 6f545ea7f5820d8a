/-! days changed at one place -/
theorem DA.congr {σ : HP} {s : Nat} {D D' : Nat → Nat} (A : DA σ s D) (h : ∀ k, k < 87 → D k = D' k) : DA σ s D' := by
  obtain ⟨dv0, dv1, dv2, dv3, dr4, dr5, dr6, dr7, dw4, dw5, dw6, dw7⟩ := A
  have hB : Bof D = Bof D' := Bof_congr (fun m q => h _ (by omega))
  refine ⟨?_, ?_, ?_, ?_, dr4, dr5, dr6, dr7, fun m k => ?_, fun m k => ?_, fun m k => ?_, fun m k => ?_⟩
  · rw [dv0, h 86 (by omega)]
  · rw [dv1, h 84 (by omega)]
  · rw [dv2, hB]
  · rw [dv3, h 85 (by omega)]
  · rw [dw4 m k, h _ (by omega)]
  · rw [dw5 m k, h _ (by omega)]
  · rw [dw6 m k, h _ (by omega)]
  · rw [dw7 m k, h _ (by omega)]
theorem DA.wplace {σ : HP} {s m v : Nat} {D : Nat → Nat} (A : DA σ s D) (hm : m < 7) : DA (wI σ (21 + 64 * (s + 1)) m (ii v)) s (up1 D m v) := by
  obtain ⟨dv0, dv1, dv2, dv3, dr4, dr5, dr6, dr7, dw4, dw5, dw6, dw7⟩ := A
  have hB : Bof (up1 D m v) = Bof D := Bof_congr (fun m' q => up1_ne (by omega))
  refine ⟨?_, ?_, ?_, ?_, dr4, dr5, dr6, dr7, fun k q => ?_, fun k q => ?_, fun k q => ?_, fun k q => ?_⟩
  · rw [gI_ne (by omega), up1_ne (by omega), dv0]
  · rw [gI_ne (by omega), up1_ne (by omega), dv1]
  · rw [gI_ne (by omega), hB, dv2]
  · rw [gI_ne (by omega), up1_ne (by omega), dv3]
  · rw [gI_row]
    by_cases e : k = m
    · rw [if_pos e, e, up1_at]
    · rw [if_neg e, up1_ne e, dw4 k q]
  · rw [gI_ne (by omega), up1_ne (by omega), dw5 k q]
  · rw [gI_ne (by omega), up1_ne (by omega), dw6 k q]
  · rw [gI_ne (by omega), up1_ne (by omega), dw7 k q]
theorem DA.wpride {σ : HP} {s m v : Nat} {D : Nat → Nat} (A : DA σ s D) (hm : m < 7) : DA (wI σ (21 + 64 * (s + 2)) m (ii v)) s (up1 D (14 + m) v) := by
  obtain ⟨dv0, dv1, dv2, dv3, dr4, dr5, dr6, dr7, dw4, dw5, dw6, dw7⟩ := A
  have hB : Bof (up1 D (14 + m) v) = Bof D := Bof_congr (fun m' q => up1_ne (by omega))
  refine ⟨?_, ?_, ?_, ?_, dr4, dr5, dr6, dr7, fun k q => ?_, fun k q => ?_, fun k q => ?_, fun k q => ?_⟩
  · rw [gI_ne (by omega), up1_ne (by omega), dv0]
  · rw [gI_ne (by omega), up1_ne (by omega), dv1]
  · rw [gI_ne (by omega), hB, dv2]
  · rw [gI_ne (by omega), up1_ne (by omega), dv3]
  · rw [gI_ne (by omega), up1_ne (by omega), dw4 k q]
  · rw [gI_row]
    by_cases e : k = m
    · rw [if_pos e, e, up1_at]
    · rw [if_neg e, up1_ne (by omega), dw5 k q]
  · rw [gI_ne (by omega), up1_ne (by omega), dw6 k q]
  · rw [gI_ne (by omega), up1_ne (by omega), dw7 k q]
theorem DA.wrode {σ : HP} {s m v : Nat} {D : Nat → Nat} (A : DA σ s D) (hm : m < 7) : DA (wI σ (21 + 64 * (s + 3)) m (ii v)) s (up1 D (21 + m) v) := by
  obtain ⟨dv0, dv1, dv2, dv3, dr4, dr5, dr6, dr7, dw4, dw5, dw6, dw7⟩ := A
  have hB : Bof (up1 D (21 + m) v) = Bof D := Bof_congr (fun m' q => up1_ne (by omega))
  refine ⟨?_, ?_, ?_, ?_, dr4, dr5, dr6, dr7, fun k q => ?_, fun k q => ?_, fun k q => ?_, fun k q => ?_⟩
  · rw [gI_ne (by omega), up1_ne (by omega), dv0]
  · rw [gI_ne (by omega), up1_ne (by omega), dv1]
  · rw [gI_ne (by omega), hB, dv2]
  · rw [gI_ne (by omega), up1_ne (by omega), dv3]
  · rw [gI_ne (by omega), up1_ne (by omega), dw4 k q]
  · rw [gI_ne (by omega), up1_ne (by omega), dw5 k q]
  · rw [gI_row]
    by_cases e : k = m
    · rw [if_pos e, e, up1_at]
    · rw [if_neg e, up1_ne (by omega), dw6 k q]
  · rw [gI_ne (by omega), up1_ne (by omega), dw7 k q]
theorem DA.wheard {σ : HP} {s m v : Nat} {D : Nat → Nat} (A : DA σ s D) (hm : m < 56) : DA (wI σ (26 + 64 * (s + 4)) m (ii v)) s (up1 D (28 + m) v) := by
  obtain ⟨dv0, dv1, dv2, dv3, dr4, dr5, dr6, dr7, dw4, dw5, dw6, dw7⟩ := A
  have hB : Bof (up1 D (28 + m) v) = Bof D := Bof_congr (fun m' q => up1_ne (by omega))
  refine ⟨?_, ?_, ?_, ?_, dr4, dr5, dr6, dr7, fun k q => ?_, fun k q => ?_, fun k q => ?_, fun k q => ?_⟩
  · rw [gI_ne (by omega), up1_ne (by omega), dv0]
  · rw [gI_ne (by omega), up1_ne (by omega), dv1]
  · rw [gI_ne (by omega), hB, dv2]
  · rw [gI_ne (by omega), up1_ne (by omega), dv3]
  · rw [gI_ne (by omega), up1_ne (by omega), dw4 k q]
  · rw [gI_ne (by omega), up1_ne (by omega), dw5 k q]
  · rw [gI_ne (by omega), up1_ne (by omega), dw6 k q]
  · rw [gI_row]
    by_cases e : k = m
    · rw [if_pos e, e, up1_at]
    · rw [if_neg e, up1_ne (by omega), dw7 k q]
/-- one of the four numbers: j is its place, i its place in the reference -/
theorem DA.wfield {σ : HP} {s j i v : Nat} {D : Nat → Nat} (A : DA σ s D) (h : (j = 0 ∧ i = 86) ∨ (j = 1 ∧ i = 84) ∨ (j = 3 ∧ i = 85)) : DA (wI σ (1 + 64 * s) j (ii v)) s (up1 D i v) := by
  obtain ⟨dv0, dv1, dv2, dv3, dr4, dr5, dr6, dr7, dw4, dw5, dw6, dw7⟩ := A
  have hB : Bof (up1 D i v) = Bof D := Bof_congr (fun m' q => up1_ne (by omega))
  refine ⟨?_, ?_, ?_, ?_, dr4, dr5, dr6, dr7, fun k q => ?_, fun k q => ?_, fun k q => ?_, fun k q => ?_⟩
  · rw [gI_row]
    by_cases e : 0 = j
    · rw [if_pos e, show i = 86 by omega, up1_at]
    · rw [if_neg e, up1_ne (by omega), dv0]
  · rw [gI_row]
    by_cases e : 1 = j
    · rw [if_pos e, show i = 84 by omega, up1_at]
    · rw [if_neg e, up1_ne (by omega), dv1]
  · rw [gI_row, if_neg (by omega), hB, dv2]
  · rw [gI_row]
    by_cases e : 3 = j
    · rw [if_pos e, show i = 85 by omega, up1_at]
    · rw [if_neg e, up1_ne (by omega), dv3]
  · rw [gI_ne (by omega), up1_ne (by omega), dw4 k q]
  · rw [gI_ne (by omega), up1_ne (by omega), dw5 k q]
  · rw [gI_ne (by omega), up1_ne (by omega), dw6 k q]
  · rw [gI_ne (by omega), up1_ne (by omega), dw7 k q]
theorem DA.winside {σ : HP} {s m v B : Nat} {D : Nat → Nat} (A : DA σ s D) (hm : m < 7) (hB : B = Bof (up1 D (7 + m) v)) : DA (wI σ (1 + 64 * s) 2 (ii B)) s (up1 D (7 + m) v) := by
  obtain ⟨dv0, dv1, dv2, dv3, dr4, dr5, dr6, dr7, dw4, dw5, dw6, dw7⟩ := A
  refine ⟨?_, ?_, ?_, ?_, dr4, dr5, dr6, dr7, fun k q => ?_, fun k q => ?_, fun k q => ?_, fun k q => ?_⟩
  · rw [gI_row, if_neg (by omega), up1_ne (by omega), dv0]
  · rw [gI_row, if_neg (by omega), up1_ne (by omega), dv1]
  · rw [gI_row, if_pos rfl, hB]
  · rw [gI_row, if_neg (by omega), up1_ne (by omega), dv3]
  · rw [gI_ne (by omega), up1_ne (by omega), dw4 k q]
  · rw [gI_ne (by omega), up1_ne (by omega), dw5 k q]
  · rw [gI_ne (by omega), up1_ne (by omega), dw6 k q]
  · rw [gI_ne (by omega), up1_ne (by omega), dw7 k q]
theorem or_bit : ∀ B, B < 128 → ∀ m, m < 7 → (B ||| 2 ^ m < 128 ∧ ∀ k, k < 7 → (B ||| 2 ^ m).testBit k = (B.testBit k || decide (k = m))) := by decide +kernel
theorem clr_bit : ∀ B, B < 128 → ∀ m, m < 7 → ((if B.testBit m then B - 2 ^ m else B) < 128 ∧ ∀ k, k < 7 → (if B.testBit m then B - 2 ^ m else B).testBit k = (B.testBit k && decide (¬ k = m))) := by decide +kernel
theorem Bof_set {D : Nat → Nat} {m : Nat} (hm : m < 7) : Bof D ||| 2 ^ m = Bof (up1 D (7 + m) 1) := by
  have h := or_bit (Bof D) (Bof_lt D) m hm
  refine Bof_eq h.1 (fun k q => ?_)
  rw [h.2 k q, Bof_bit D q]
  by_cases e : k = m
  · rw [e, up1_at]; simp
  · rw [up1_ne (by omega)]; simp [e]
theorem Bof_clr {D : Nat → Nat} {m : Nat} (hm : m < 7) : (if (Bof D).testBit m then Bof D - 2 ^ m else Bof D) = Bof (up1 D (7 + m) 0) := by
  have h := clr_bit (Bof D) (Bof_lt D) m hm
  refine Bof_eq h.1 (fun k q => ?_)
  rw [h.2 k q, Bof_bit D q]
  by_cases e : k = m
  · rw [e, up1_at]; simp
  · rw [up1_ne (by omega)]; simp [e]
/-! what happens in a house, as the reference tells it -/
def bump (D : Nat → Nat) (k n : Nat) : Nat → Nat := up1 D k (D k + n)
theorem bump0 (D : Nat → Nat) (k : Nat) : bump D k 0 = D := by
  funext j
  unfold bump up1
  split
  · rename_i h; rw [h]; rfl
  · rfl
def lieB (H : HH) (m c : Nat) : Bool := decide (cr H (2 * c + 1) < mr H (3 * m + 2))
def sayN (H : HH) (w : LW) (D : Nat → Nat) (m c : Nat) : Nat → Nat := if D (28 + (m * 8 + c)) < 9 then bump (bump (up1 D (14 + m) (min 900 (D (14 + m) + swell H w D m c))) (28 + (m * 8 + c)) 1) 85 (lieB H m c).toNat else D
def popc (B : Nat) : Nat := sumTo (fun k => (B.testBit k).toNat) 8
def entB (D : Nat → Nat) (m : Nat) : Bool := decide (D (7 + m) = 0) && (decide (D m = D 84) && decide (popc (Bof D) < 4))
def entN (D : Nat → Nat) (m : Nat) : Nat → Nat := if entB D m then up1 D (7 + m) 1 else D
def leaN (D : Nat → Nat) (m : Nat) : Nat → Nat := if D (7 + m) = 0 then D else up1 (up1 D (7 + m) 0) m (D 84)
def insN (H : HH) (D : Nat → Nat) (m : Nat) : Nat → Nat := if D (14 + m) = 0 then D else if D (7 + m) = 0 then up1 D (14 + m) 0 else up1 (up1 D (14 + m) 0) 84 (hf H - 1)
def goesTo (H : HH) (lv ld : Nat) : Nat := if hp H < ld then min (hf H - 1) (lv + ((ld - hp H) / 10 + 1)) else if ld < hp H then lv - ((hp H - ld) / 10 + 1) else lv
def rdTo (D : Nat → Nat) : Nat → (Nat → Nat)
  | 0 => D
  | n + 1 => bump (rdTo D n) (21 + n) (decide (¬ D (7 + n) = 0)).toNat
def goN (H : HH) (D : Nat → Nat) : Nat → Nat := if Bof D = 0 then D else rdTo (up1 D 84 (goesTo H (D 84) (hvs H D (Bof D)))) (hm H)
def cliN (D : Nat → Nat) (m f : Nat) : Nat → Nat := if D (7 + m) = 0 then (if D m = f then D else up1 D m f) else D
/-- prides halved for the first n -/
def hlvF (D : Nat → Nat) (n k : Nat) : Nat := if 14 ≤ k ∧ k < 14 + n then D k / 2 else D k
def outTo (D : Nat → Nat) : Nat → (Nat → Nat)
  | 0 => D
  | n + 1 => leaN (outTo D n) n
def nigN (H : HH) (D : Nat → Nat) (k : Nat) : Nat := if 28 ≤ k ∧ k < 84 then 0 else bump (outTo (hlvF D (hm H)) (hm H)) 86 1 k
theorem rdTo_ne {D : Nat → Nat} {n k : Nat} (h : k < 21 ∨ 21 + n ≤ k) : rdTo D n k = D k := by
  induction n with
  | zero => rfl
  | succ n ih =>
    unfold rdTo bump
    rw [up1_ne (by omega), ih (by omega)]
theorem goesTo_lt {H : HH} (hw : wH H) {lv ld : Nat} (h : lv < hf H) : goesTo H lv ld < hf H := by
  have := hw.1
  unfold goesTo
  split
  · omega
  · split <;> omega
theorem wD.up {H : HH} {D : Nat → Nat} {k v : Nat} (hD : wD H D) (h1 : k < 7 → v < hf H) (h2 : 7 ≤ k ∧ k < 14 → v ≤ 1 ∧ (hm H ≤ k - 7 → v = 0)) (h3 : 14 ≤ k ∧ k < 21 → v ≤ 900) (h4 : 28 ≤ k ∧ k < 84 → v ≤ 9) (h5 : k = 84 → v < hf H) : wD H (up1 D k v) := by
  obtain ⟨a, b, c⟩ := hD
  refine ⟨fun m q => ⟨?_, ?_, fun z => ?_, ?_⟩, fun j q => ?_, ?_⟩ <;> unfold up1 <;> split
  all_goals first | (have := h1; omega) | (have := h2; omega) | (have := h3; omega) | (have := h4; omega) | (have := h5; omega) | (have := a m q; omega) | (have := b j q; omega) | exact c
theorem wD.say {H : HH} {w : LW} {D : Nat → Nat} {m c : Nat} (hD : wD H D) (hm : m < 7) (hc : c < 8) : wD H (sayN H w D m c) := by
  unfold sayN
  split
  · rename_i h
    have e : up1 D (14 + m) (min 900 (D (14 + m) + swell H w D m c)) (28 + (m * 8 + c)) = D (28 + (m * 8 + c)) := up1_ne (by omega)
    unfold bump
    rw [e]
    exact ((hD.up (by omega) (by omega) (by omega) (by omega) (by omega)).up (by omega) (by omega) (by omega) (by omega) (by omega)).up (by omega) (by omega) (by omega) (by omega) (by omega)
  · exact hD
theorem wD.ent {H : HH} {D : Nat → Nat} {m : Nat} (hD : wD H D) (hm7 : m < 7) (hk : m < hm H) : wD H (entN D m) := by
  unfold entN
  split
  · exact hD.up (by omega) (by omega) (by omega) (by omega) (by omega)
  · exact hD
theorem wD.lea {H : HH} {D : Nat → Nat} {m : Nat} (hD : wD H D) (hk : m < 7) : wD H (leaN D m) := by
  unfold leaN
  have h := hD.2.2
  split
  · exact hD
  · exact (hD.up (by omega) (by omega) (by omega) (by omega) (by omega)).up (by omega) (by omega) (by omega) (by omega) (by omega)
theorem wD.ins {H : HH} {D : Nat → Nat} {m : Nat} (hw : wH H) (hD : wD H D) (hk : m < 7) : wD H (insN H D m) := by
  unfold insN
  have h := hw.1
  split
  · exact hD
  · split
    · exact hD.up (by omega) (by omega) (by omega) (by omega) (by omega)
    · exact (hD.up (by omega) (by omega) (by omega) (by omega) (by omega)).up (by omega) (by omega) (by omega) (by omega) (by omega)
theorem wD.rd {H : HH} {D : Nat → Nat} (hD : wD H D) : ∀ n, n ≤ 7 → wD H (rdTo D n) := by
  intro n
  induction n with
  | zero => intro _; exact hD
  | succ n ih =>
    intro hn
    unfold rdTo bump
    exact (ih (by omega)).up (by omega) (by omega) (by omega) (by omega) (by omega)
theorem wD.go {H : HH} {D : Nat → Nat} (hw : wH H) (hD : wD H D) : wD H (goN H D) := by
  unfold goN
  have h := hw.1
  have h2 := goesTo_lt hw (lv := D 84) (ld := hvs H D (Bof D)) hD.2.2
  split
  · exact hD
  · exact (hD.up (by omega) (by omega) (by omega) (by omega) (by omega)).rd _ (by omega)
theorem wD.cli {H : HH} {D : Nat → Nat} {m f : Nat} (hD : wD H D) (hk : m < 7) (hf' : f < hf H) : wD H (cliN D m f) := by
  unfold cliN
  split
  · split
    · exact hD
    · exact hD.up (by omega) (by omega) (by omega) (by omega) (by omega)
  · exact hD
theorem wD.congr {H : HH} {D D' : Nat → Nat} (hD : wD H D) (h : ∀ k, k < 85 → D k = D' k) : wD H D' := by
  obtain ⟨a, b, c⟩ := hD
  refine ⟨fun m q => ?_, fun j q => ?_, ?_⟩
  · rw [← h m (by omega), ← h (7 + m) (by omega), ← h (14 + m) (by omega)]
    exact a m q
  · rw [← h (28 + j) (by omega)]
    exact b j q
  · rw [← h 84 (by omega)]
    exact c
theorem wD.hlf {H : HH} {D : Nat → Nat} (hD : wD H D) (n : Nat) (hn : n ≤ 7) : wD H (hlvF D n) := by
  obtain ⟨a, b, c⟩ := hD
  refine ⟨fun m q => ?_, fun j q => ?_, ?_⟩
  · have := a m q
    unfold hlvF
    rw [if_neg (by omega), if_neg (by omega)]
    split <;> omega
  · have := b j q
    unfold hlvF
    rw [if_neg (by omega)]
    exact this
  · unfold hlvF
    rw [if_neg (by omega)]
    exact c
theorem wD.out {H : HH} {D : Nat → Nat} (hD : wD H D) : ∀ n, n ≤ 7 → wD H (outTo D n) := by
  intro n
  induction n with
  | zero => intro _; exact hD
  | succ n ih =>
    intro hn
    exact (ih (by omega)).lea (by omega)
theorem wD.nig {H : HH} {D : Nat → Nat} (hD : wD H D) (hw : wH H) : wD H (nigN H D) := by
  have h := hw.1
  have h2 : wD H (bump (outTo (hlvF D (hm H)) (hm H)) 86 1) := ((hD.hlf (hm H) (by omega)).out (hm H) (by omega)).up (by omega) (by omega) (by omega) (by omega) (by omega)
  obtain ⟨a, b, c⟩ := h2
  refine ⟨fun m q => ?_, fun j q => ?_, ?_⟩
  · unfold nigN
    rw [if_neg (by omega), if_neg (by omega), if_neg (by omega)]
    exact a m q
  · unfold nigN
    rw [if_pos (by omega)]
    omega
  · unfold nigN
    rw [if_neg (by omega)]
    exact c
