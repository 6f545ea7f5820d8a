/-! RULES: one instruction of the small machine, as an equation of runs -/
def dr (r : Option Nat) : Nat := r.getD 0
def p_rem (x y : Int32) : Int32 := x - x / y * y
def p_shl (x y : Int32) : Int32 := x <<< (y &&& 31)
def p_shr (x y : Int32) : Int32 := x >>> (y &&& 31)
def p_ushr (x y : Int32) : Int32 := (x.toUInt32 >>> (y.toUInt32 &&& Int32.toUInt32 31)).toInt32
def p_byte (x : Int32) : Int32 := x.toInt8.toInt32
def p_char (x : Int32) : Int32 := (x.toUInt32 % 65536).toInt32
def p_min (x y : Int32) : Int32 := if y < x then y else x
def p_max (x y : Int32) : Int32 := if x < y then y else x
def p_abs (x : Int32) : Int32 := if 0 ≤ x then x else 0 - x
def p_remL (x y : Int64) : Int64 := x - x / y * y
def p_shlL (x : Int64) (y : Int32) : Int64 := x <<< (y.toInt64 &&& 63)
theorem dr_some (a : Nat) : dr (some a) = a := rfl
theorem rv_some (a : Nat) : rv (some a) = .ref a := rfl
theorem rv_dr {r : Option Nat} (h : r.isSome = true) : rv r = .ref (dr r) := by
  cases r with
  | none => cases h
  | some a => rfl
theorem st1 {C : CF} {d : Nat} {m : MM} {pc : Nat} {L : LV} {st : List Value} {σ : HP} {i : Instr} {n : Nat} (hd : decode (zb m) pc = .ok (i, n)) : step1 C d m (pc, L, st, σ) = stepI C d m pc L st σ i n := by
  unfold step1
  simp only [hd]
theorem r_iloadn {C : CF} {d : Nat} {m : MM} {pc : Nat} {L : LV} {st : List Value} {σ : HP} (k : Fin 4) {x : Int32} (hd : decode (zb m) pc = .ok (.iload_n k, 1)) (hl : ld L k = some (.int x)) : runF C d m (pc, L, st, σ) = runF C d m (pc + 1, L, .int x :: st, σ) :=
  runF_go ((st1 hd).trans (by
    simp only [stepI, gd, zLoadI, hl, if_true, go]))
theorem r_iload {C : CF} {d : Nat} {m : MM} {pc : Nat} {L : LV} {st : List Value} {σ : HP} (k : Nat) {x : Int32} (hd : decode (zb m) pc = .ok (.iload k, 2)) (hl : ld L k = some (.int x)) : runF C d m (pc, L, st, σ) = runF C d m (pc + 2, L, .int x :: st, σ) :=
  runF_go ((st1 hd).trans (by
    simp only [stepI, gd, zLoadI, hl, if_true, go]))
theorem r_lloadn {C : CF} {d : Nat} {m : MM} {pc : Nat} {L : LV} {st : List Value} {σ : HP} (k : Fin 4) {x : Int64} (hd : decode (zb m) pc = .ok (.lload_n k, 1)) (hl : ld L k = some (.long x)) : runF C d m (pc, L, st, σ) = runF C d m (pc + 1, L, .long x :: st, σ) :=
  runF_go ((st1 hd).trans (by
    simp only [stepI, gd, zLoadL, hl, if_true, go]))
theorem r_lload {C : CF} {d : Nat} {m : MM} {pc : Nat} {L : LV} {st : List Value} {σ : HP} (k : Nat) {x : Int64} (hd : decode (zb m) pc = .ok (.lload k, 2)) (hl : ld L k = some (.long x)) : runF C d m (pc, L, st, σ) = runF C d m (pc + 2, L, .long x :: st, σ) :=
  runF_go ((st1 hd).trans (by
    simp only [stepI, gd, zLoadL, hl, if_true, go]))
theorem r_aloadn {C : CF} {d : Nat} {m : MM} {pc : Nat} {L : LV} {st : List Value} {σ : HP} (k : Fin 4) {x : Nat} (hd : decode (zb m) pc = .ok (.aload_n k, 1)) (hl : ld L k = some (.ref x)) : runF C d m (pc, L, st, σ) = runF C d m (pc + 1, L, .ref x :: st, σ) :=
  runF_go ((st1 hd).trans (by
    simp only [stepI, gd, zLoadA, hl, if_true, go]))
theorem r_aload {C : CF} {d : Nat} {m : MM} {pc : Nat} {L : LV} {st : List Value} {σ : HP} (k : Nat) {x : Nat} (hd : decode (zb m) pc = .ok (.aload k, 2)) (hl : ld L k = some (.ref x)) : runF C d m (pc, L, st, σ) = runF C d m (pc + 2, L, .ref x :: st, σ) :=
  runF_go ((st1 hd).trans (by
    simp only [stepI, gd, zLoadA, hl, if_true, go]))
theorem r_aloadnv {C : CF} {d : Nat} {m : MM} {pc : Nat} {L : LV} {st : List Value} {σ : HP} (k : Fin 4) {x : Option Nat} (hd : decode (zb m) pc = .ok (.aload_n k, 1)) (hl : ld L k = some (rv x)) : runF C d m (pc, L, st, σ) = runF C d m (pc + 1, L, rv x :: st, σ) :=
  runF_go ((st1 hd).trans (by
    cases x <;> simp only [stepI, gd, zLoadA, hl, if_true, go, rv]))
theorem r_aloadv {C : CF} {d : Nat} {m : MM} {pc : Nat} {L : LV} {st : List Value} {σ : HP} (k : Nat) {x : Option Nat} (hd : decode (zb m) pc = .ok (.aload k, 2)) (hl : ld L k = some (rv x)) : runF C d m (pc, L, st, σ) = runF C d m (pc + 2, L, rv x :: st, σ) :=
  runF_go ((st1 hd).trans (by
    cases x <;> simp only [stepI, gd, zLoadA, hl, if_true, go, rv]))
theorem r_istoren {C : CF} {d : Nat} {m : MM} {pc : Nat} {L : LV} {st : List Value} {σ : HP} (k : Fin 4) {x : Int32} (hd : decode (zb m) pc = .ok (.istore_n k, 1)) (hk : decide ((k : Nat) < L.length ∧ okD (zs m) L k = true) = true) : runF C d m (pc, L, .int x :: st, σ) = runF C d m (pc + 1, L.set k (some (.int x)), st, σ) :=
  runF_go ((st1 hd).trans (by
    simp only [stepI, gd, zStoreI, if_true, of_decide_eq_true hk, and_self, go]))
theorem r_istore {C : CF} {d : Nat} {m : MM} {pc : Nat} {L : LV} {st : List Value} {σ : HP} (k : Nat) {x : Int32} (hd : decode (zb m) pc = .ok (.istore k, 2)) (hk : decide ((k : Nat) < L.length ∧ okD (zs m) L k = true) = true) : runF C d m (pc, L, .int x :: st, σ) = runF C d m (pc + 2, L.set k (some (.int x)), st, σ) :=
  runF_go ((st1 hd).trans (by
    simp only [stepI, gd, zStoreI, if_true, of_decide_eq_true hk, and_self, go]))
theorem r_astoren {C : CF} {d : Nat} {m : MM} {pc : Nat} {L : LV} {st : List Value} {σ : HP} (k : Fin 4) {x : Nat} (hd : decode (zb m) pc = .ok (.astore_n k, 1)) (hk : decide ((k : Nat) < L.length ∧ okD (zs m) L k = true) = true) : runF C d m (pc, L, .ref x :: st, σ) = runF C d m (pc + 1, L.set k (some (.ref x)), st, σ) :=
  runF_go ((st1 hd).trans (by
    simp only [stepI, gd, zStoreA, if_true, of_decide_eq_true hk, and_self, go]))
theorem r_astore {C : CF} {d : Nat} {m : MM} {pc : Nat} {L : LV} {st : List Value} {σ : HP} (k : Nat) {x : Nat} (hd : decode (zb m) pc = .ok (.astore k, 2)) (hk : decide ((k : Nat) < L.length ∧ okD (zs m) L k = true) = true) : runF C d m (pc, L, .ref x :: st, σ) = runF C d m (pc + 2, L.set k (some (.ref x)), st, σ) :=
  runF_go ((st1 hd).trans (by
    simp only [stepI, gd, zStoreA, if_true, of_decide_eq_true hk, and_self, go]))
theorem r_astorenv {C : CF} {d : Nat} {m : MM} {pc : Nat} {L : LV} {st : List Value} {σ : HP} (k : Fin 4) {x : Option Nat} (hd : decode (zb m) pc = .ok (.astore_n k, 1)) (hk : decide ((k : Nat) < L.length ∧ okD (zs m) L k = true) = true) : runF C d m (pc, L, rv x :: st, σ) = runF C d m (pc + 1, L.set k (some (rv x)), st, σ) :=
  runF_go ((st1 hd).trans (by
    cases x <;> simp only [stepI, gd, zStoreA, if_true, of_decide_eq_true hk, and_self, go, rv]))
theorem r_astorev {C : CF} {d : Nat} {m : MM} {pc : Nat} {L : LV} {st : List Value} {σ : HP} (k : Nat) {x : Option Nat} (hd : decode (zb m) pc = .ok (.astore k, 2)) (hk : decide ((k : Nat) < L.length ∧ okD (zs m) L k = true) = true) : runF C d m (pc, L, rv x :: st, σ) = runF C d m (pc + 2, L.set k (some (rv x)), st, σ) :=
  runF_go ((st1 hd).trans (by
    cases x <;> simp only [stepI, gd, zStoreA, if_true, of_decide_eq_true hk, and_self, go, rv]))
theorem r_lstoren {C : CF} {d : Nat} {m : MM} {pc : Nat} {L : LV} {st : List Value} {σ : HP} (k : Fin 4) {x : Int64} (hd : decode (zb m) pc = .ok (.lstore_n k, 1)) (hk : decide ((k : Nat) + 1 < L.length ∧ okD (zs m) L k = true ∧ (zs m).contains (k : Nat) = true) = true) : runF C d m (pc, L, .long x :: st, σ) = runF C d m (pc + 1, (L.set k (some (.long x))).set (k + 1) none, st, σ) :=
  runF_go ((st1 hd).trans (by
    simp only [stepI, gd, zStoreL, if_true, of_decide_eq_true hk, and_self, go]))
theorem r_lstore {C : CF} {d : Nat} {m : MM} {pc : Nat} {L : LV} {st : List Value} {σ : HP} (k : Nat) {x : Int64} (hd : decode (zb m) pc = .ok (.lstore k, 2)) (hk : decide ((k : Nat) + 1 < L.length ∧ okD (zs m) L k = true ∧ (zs m).contains (k : Nat) = true) = true) : runF C d m (pc, L, .long x :: st, σ) = runF C d m (pc + 2, (L.set k (some (.long x))).set (k + 1) none, st, σ) :=
  runF_go ((st1 hd).trans (by
    simp only [stepI, gd, zStoreL, if_true, of_decide_eq_true hk, and_self, go]))
theorem r_iinc {C : CF} {d : Nat} {m : MM} {pc : Nat} {L : LV} {st : List Value} {σ : HP} (k : Nat) {x v : Int32} {c : Int} (hd : decode (zb m) pc = .ok (.iinc k c, 3)) (hl : ld L k = some (.int x)) (hk : okD (zs m) L k = true) (hv : Int32.ofInt c = v) : runF C d m (pc, L, st, σ) = runF C d m (pc + 3, L.set k (some (.int (x + v))), st, σ) :=
  runF_go ((st1 hd).trans (by
    simp only [stepI, gd, zInc, hl, hk, if_true, go, hv]))
theorem r_iconst {C : CF} {d : Nat} {m : MM} {pc : Nat} {L : LV} {st : List Value} {σ : HP} {c : Int} {v : Int32} (hd : decode (zb m) pc = .ok (.iconst c, 1)) (hv : Int32.ofInt c = v) : runF C d m (pc, L, st, σ) = runF C d m (pc + 1, L, .int v :: st, σ) :=
  runF_go ((st1 hd).trans (by
    simp only [stepI, gd, if_true, go, hv]))
theorem r_bipush {C : CF} {d : Nat} {m : MM} {pc : Nat} {L : LV} {st : List Value} {σ : HP} {c : Int} {v : Int32} (hd : decode (zb m) pc = .ok (.bipush c, 2)) (hv : (Int8.ofInt c).toInt32 = v) : runF C d m (pc, L, st, σ) = runF C d m (pc + 2, L, .int v :: st, σ) :=
  runF_go ((st1 hd).trans (by
    simp only [stepI, gd, if_true, go, hv]))
theorem r_sipush {C : CF} {d : Nat} {m : MM} {pc : Nat} {L : LV} {st : List Value} {σ : HP} {c : Int} {v : Int32} (hd : decode (zb m) pc = .ok (.sipush c, 3)) (hv : (Int16.ofInt c).toInt32 = v) : runF C d m (pc, L, st, σ) = runF C d m (pc + 3, L, .int v :: st, σ) :=
  runF_go ((st1 hd).trans (by
    simp only [stepI, gd, if_true, go, hv]))
theorem r_lconst {C : CF} {d : Nat} {m : MM} {pc : Nat} {L : LV} {st : List Value} {σ : HP} {c : Fin 2} {v : Int64} (hd : decode (zb m) pc = .ok (.lconst c, 1)) (hv : Int64.ofNat ((c : Fin 2) : Nat) = v) : runF C d m (pc, L, st, σ) = runF C d m (pc + 1, L, .long v :: st, σ) :=
  runF_go ((st1 hd).trans (by
    simp only [stepI, gd, if_true, go, hv]))
theorem r_ldcI {C : CF} {d : Nat} {m : MM} {pc : Nat} {L : LV} {st : List Value} {σ : HP} {k : Nat} {v : Int32} (hd : decode (zb m) pc = .ok (.ldc k, 2)) (hl : il (zo m) k = some v) : runF C d m (pc, L, st, σ) = runF C d m (pc + 2, L, .int v :: st, σ) :=
  runF_go ((st1 hd).trans (by
    simp only [stepI, gd, zLdc, hl, if_true, go]))
theorem r_ldcS {C : CF} {d : Nat} {m : MM} {pc : Nat} {L : LV} {st : List Value} {σ : HP} {k i : Nat} (hd : decode (zb m) pc = .ok (.ldc k, 2)) (hn : il (zo m) k = none) (hl : sl (zo m) k = some i) : runF C d m (pc, L, st, σ) = runF C d m (pc + 2, L, .ref (16 + 64 * i) :: st, σ) :=
  runF_go ((st1 hd).trans (by
    simp only [stepI, gd, zLdc, hn, hl, if_true, go]))
theorem r_ldcwI {C : CF} {d : Nat} {m : MM} {pc : Nat} {L : LV} {st : List Value} {σ : HP} {k : Nat} {v : Int32} (hd : decode (zb m) pc = .ok (.ldc_w k, 3)) (hl : il (zo m) k = some v) : runF C d m (pc, L, st, σ) = runF C d m (pc + 3, L, .int v :: st, σ) :=
  runF_go ((st1 hd).trans (by
    simp only [stepI, gd, zLdc, hl, if_true, go]))
theorem r_ldcwS {C : CF} {d : Nat} {m : MM} {pc : Nat} {L : LV} {st : List Value} {σ : HP} {k i : Nat} (hd : decode (zb m) pc = .ok (.ldc_w k, 3)) (hn : il (zo m) k = none) (hl : sl (zo m) k = some i) : runF C d m (pc, L, st, σ) = runF C d m (pc + 3, L, .ref (16 + 64 * i) :: st, σ) :=
  runF_go ((st1 hd).trans (by
    simp only [stepI, gd, zLdc, hn, hl, if_true, go]))
theorem r_ldc2 {C : CF} {d : Nat} {m : MM} {pc : Nat} {L : LV} {st : List Value} {σ : HP} {k : Nat} {v : Int64} (hd : decode (zb m) pc = .ok (.ldc2_w k, 3)) (hl : ll (zo m) k = some v) : runF C d m (pc, L, st, σ) = runF C d m (pc + 3, L, .long v :: st, σ) :=
  runF_go ((st1 hd).trans (by
    simp only [stepI, gd, zLdc2, hl, if_true, go]))
theorem r_iadd {C : CF} {d : Nat} {m : MM} {pc : Nat} {L : LV} {st : List Value} {σ : HP} {x y : Int32} (hd : decode (zb m) pc = .ok (.iadd, 1))  : runF C d m (pc, L, .int y :: .int x :: st, σ) = runF C d m (pc + 1, L, .int (x + y) :: st, σ) :=
  runF_go ((st1 hd).trans (by
    simp only [stepI, gd, zBin, if_true, go, p_shl, p_shr, p_ushr]))
theorem r_isub {C : CF} {d : Nat} {m : MM} {pc : Nat} {L : LV} {st : List Value} {σ : HP} {x y : Int32} (hd : decode (zb m) pc = .ok (.isub, 1))  : runF C d m (pc, L, .int y :: .int x :: st, σ) = runF C d m (pc + 1, L, .int (x - y) :: st, σ) :=
  runF_go ((st1 hd).trans (by
    simp only [stepI, gd, zBin, if_true, go, p_shl, p_shr, p_ushr]))
theorem r_imul {C : CF} {d : Nat} {m : MM} {pc : Nat} {L : LV} {st : List Value} {σ : HP} {x y : Int32} (hd : decode (zb m) pc = .ok (.imul, 1))  : runF C d m (pc, L, .int y :: .int x :: st, σ) = runF C d m (pc + 1, L, .int (x * y) :: st, σ) :=
  runF_go ((st1 hd).trans (by
    simp only [stepI, gd, zBin, if_true, go, p_shl, p_shr, p_ushr]))
theorem r_iand {C : CF} {d : Nat} {m : MM} {pc : Nat} {L : LV} {st : List Value} {σ : HP} {x y : Int32} (hd : decode (zb m) pc = .ok (.iand, 1))  : runF C d m (pc, L, .int y :: .int x :: st, σ) = runF C d m (pc + 1, L, .int (x &&& y) :: st, σ) :=
  runF_go ((st1 hd).trans (by
    simp only [stepI, gd, zBin, if_true, go, p_shl, p_shr, p_ushr]))
theorem r_ior {C : CF} {d : Nat} {m : MM} {pc : Nat} {L : LV} {st : List Value} {σ : HP} {x y : Int32} (hd : decode (zb m) pc = .ok (.ior, 1))  : runF C d m (pc, L, .int y :: .int x :: st, σ) = runF C d m (pc + 1, L, .int (x ||| y) :: st, σ) :=
  runF_go ((st1 hd).trans (by
    simp only [stepI, gd, zBin, if_true, go, p_shl, p_shr, p_ushr]))
theorem r_ixor {C : CF} {d : Nat} {m : MM} {pc : Nat} {L : LV} {st : List Value} {σ : HP} {x y : Int32} (hd : decode (zb m) pc = .ok (.ixor, 1))  : runF C d m (pc, L, .int y :: .int x :: st, σ) = runF C d m (pc + 1, L, .int (x ^^^ y) :: st, σ) :=
  runF_go ((st1 hd).trans (by
    simp only [stepI, gd, zBin, if_true, go, p_shl, p_shr, p_ushr]))
theorem r_ishl {C : CF} {d : Nat} {m : MM} {pc : Nat} {L : LV} {st : List Value} {σ : HP} {x y : Int32} (hd : decode (zb m) pc = .ok (.ishl, 1))  : runF C d m (pc, L, .int y :: .int x :: st, σ) = runF C d m (pc + 1, L, .int (p_shl x y) :: st, σ) :=
  runF_go ((st1 hd).trans (by
    simp only [stepI, gd, zBin, if_true, go, p_shl, p_shr, p_ushr]))
theorem r_ishr {C : CF} {d : Nat} {m : MM} {pc : Nat} {L : LV} {st : List Value} {σ : HP} {x y : Int32} (hd : decode (zb m) pc = .ok (.ishr, 1))  : runF C d m (pc, L, .int y :: .int x :: st, σ) = runF C d m (pc + 1, L, .int (p_shr x y) :: st, σ) :=
  runF_go ((st1 hd).trans (by
    simp only [stepI, gd, zBin, if_true, go, p_shl, p_shr, p_ushr]))
theorem r_iushr {C : CF} {d : Nat} {m : MM} {pc : Nat} {L : LV} {st : List Value} {σ : HP} {x y : Int32} (hd : decode (zb m) pc = .ok (.iushr, 1))  : runF C d m (pc, L, .int y :: .int x :: st, σ) = runF C d m (pc + 1, L, .int (p_ushr x y) :: st, σ) :=
  runF_go ((st1 hd).trans (by
    simp only [stepI, gd, zBin, if_true, go, p_shl, p_shr, p_ushr]))
theorem r_idiv {C : CF} {d : Nat} {m : MM} {pc : Nat} {L : LV} {st : List Value} {σ : HP} {x y : Int32} (hd : decode (zb m) pc = .ok (.idiv, 1)) (hy : ¬ y = 0) : runF C d m (pc, L, .int y :: .int x :: st, σ) = runF C d m (pc + 1, L, .int (x / y) :: st, σ) :=
  runF_go ((st1 hd).trans (by
    simp only [stepI, gd, zDiv, if_true, if_neg hy, go, p_rem]))
theorem r_irem {C : CF} {d : Nat} {m : MM} {pc : Nat} {L : LV} {st : List Value} {σ : HP} {x y : Int32} (hd : decode (zb m) pc = .ok (.irem, 1)) (hy : ¬ y = 0) : runF C d m (pc, L, .int y :: .int x :: st, σ) = runF C d m (pc + 1, L, .int (p_rem x y) :: st, σ) :=
  runF_go ((st1 hd).trans (by
    simp only [stepI, gd, zDiv, if_true, if_neg hy, go, p_rem]))
theorem r_ineg {C : CF} {d : Nat} {m : MM} {pc : Nat} {L : LV} {st : List Value} {σ : HP} {x : Int32} (hd : decode (zb m) pc = .ok (.ineg, 1))  : runF C d m (pc, L, .int x :: st, σ) = runF C d m (pc + 1, L, .int (-x) :: st, σ) :=
  runF_go ((st1 hd).trans (by
    simp only [stepI, gd, zUn, if_true, go, p_byte, p_char]))
theorem r_i2b {C : CF} {d : Nat} {m : MM} {pc : Nat} {L : LV} {st : List Value} {σ : HP} {x : Int32} (hd : decode (zb m) pc = .ok (.i2b, 1))  : runF C d m (pc, L, .int x :: st, σ) = runF C d m (pc + 1, L, .int (p_byte x) :: st, σ) :=
  runF_go ((st1 hd).trans (by
    simp only [stepI, gd, zUn, if_true, go, p_byte, p_char]))
theorem r_i2c {C : CF} {d : Nat} {m : MM} {pc : Nat} {L : LV} {st : List Value} {σ : HP} {x : Int32} (hd : decode (zb m) pc = .ok (.i2c, 1))  : runF C d m (pc, L, .int x :: st, σ) = runF C d m (pc + 1, L, .int (p_char x) :: st, σ) :=
  runF_go ((st1 hd).trans (by
    simp only [stepI, gd, zUn, if_true, go, p_byte, p_char]))
theorem r_ladd {C : CF} {d : Nat} {m : MM} {pc : Nat} {L : LV} {st : List Value} {σ : HP} {x y : Int64} (hd : decode (zb m) pc = .ok (.ladd, 1))  : runF C d m (pc, L, .long y :: .long x :: st, σ) = runF C d m (pc + 1, L, .long (x + y) :: st, σ) :=
  runF_go ((st1 hd).trans (by
    simp only [stepI, gd, zBinL, if_true, go]))
theorem r_lmul {C : CF} {d : Nat} {m : MM} {pc : Nat} {L : LV} {st : List Value} {σ : HP} {x y : Int64} (hd : decode (zb m) pc = .ok (.lmul, 1))  : runF C d m (pc, L, .long y :: .long x :: st, σ) = runF C d m (pc + 1, L, .long (x * y) :: st, σ) :=
  runF_go ((st1 hd).trans (by
    simp only [stepI, gd, zBinL, if_true, go]))
theorem r_ldiv {C : CF} {d : Nat} {m : MM} {pc : Nat} {L : LV} {st : List Value} {σ : HP} {x y : Int64} (hd : decode (zb m) pc = .ok (.ldiv, 1)) (hy : ¬ y = 0) : runF C d m (pc, L, .long y :: .long x :: st, σ) = runF C d m (pc + 1, L, .long (x / y) :: st, σ) :=
  runF_go ((st1 hd).trans (by
    simp only [stepI, gd, zDivL, if_true, if_neg hy, go, p_remL]))
theorem r_lrem {C : CF} {d : Nat} {m : MM} {pc : Nat} {L : LV} {st : List Value} {σ : HP} {x y : Int64} (hd : decode (zb m) pc = .ok (.lrem, 1)) (hy : ¬ y = 0) : runF C d m (pc, L, .long y :: .long x :: st, σ) = runF C d m (pc + 1, L, .long (p_remL x y) :: st, σ) :=
  runF_go ((st1 hd).trans (by
    simp only [stepI, gd, zDivL, if_true, if_neg hy, go, p_remL]))
theorem r_lshl {C : CF} {d : Nat} {m : MM} {pc : Nat} {L : LV} {st : List Value} {σ : HP} {x : Int64} {y : Int32} (hd : decode (zb m) pc = .ok (.lshl, 1))  : runF C d m (pc, L, .int y :: .long x :: st, σ) = runF C d m (pc + 1, L, .long (p_shlL x y) :: st, σ) :=
  runF_go ((st1 hd).trans (by
    simp only [stepI, gd, zShlL, if_true, go, p_shlL]))
theorem r_i2l {C : CF} {d : Nat} {m : MM} {pc : Nat} {L : LV} {st : List Value} {σ : HP} {x : Int32} (hd : decode (zb m) pc = .ok (.i2l, 1))  : runF C d m (pc, L, .int x :: st, σ) = runF C d m (pc + 1, L, .long x.toInt64 :: st, σ) :=
  runF_go ((st1 hd).trans (by
    simp only [stepI, gd, zI2l, if_true, go]))
theorem r_lcmp {C : CF} {d : Nat} {m : MM} {pc : Nat} {L : LV} {st : List Value} {σ : HP} {x y : Int64} (hd : decode (zb m) pc = .ok (.lcmp, 1))  : runF C d m (pc, L, .long y :: .long x :: st, σ) = runF C d m (pc + 1, L, .int (lg_cmp x y) :: st, σ) :=
  runF_go ((st1 hd).trans (by
    simp only [stepI, gd, zLcmp, if_true, go]))
theorem r_dupI {C : CF} {d : Nat} {m : MM} {pc : Nat} {L : LV} {st : List Value} {σ : HP} {x : Int32} (hd : decode (zb m) pc = .ok (.dup, 1))  : runF C d m (pc, L, .int x :: st, σ) = runF C d m (pc + 1, L, .int x :: .int x :: st, σ) :=
  runF_go ((st1 hd).trans (by
    simp only [stepI, gd, zDup, if_true, go]))
theorem r_dupR {C : CF} {d : Nat} {m : MM} {pc : Nat} {L : LV} {st : List Value} {σ : HP} {x : Nat} (hd : decode (zb m) pc = .ok (.dup, 1))  : runF C d m (pc, L, .ref x :: st, σ) = runF C d m (pc + 1, L, .ref x :: .ref x :: st, σ) :=
  runF_go ((st1 hd).trans (by
    simp only [stepI, gd, zDup, if_true, go]))
theorem r_dup2 {C : CF} {d : Nat} {m : MM} {pc : Nat} {L : LV} {st : List Value} {σ : HP} {x : Int32} {y : Nat} (hd : decode (zb m) pc = .ok (.dup2, 1))  : runF C d m (pc, L, .int x :: .ref y :: st, σ) = runF C d m (pc + 1, L, .int x :: .ref y :: .int x :: .ref y :: st, σ) :=
  runF_go ((st1 hd).trans (by
    simp only [stepI, gd, zDup2, if_true, go]))
theorem r_popI {C : CF} {d : Nat} {m : MM} {pc : Nat} {L : LV} {st : List Value} {σ : HP} {x : Int32} (hd : decode (zb m) pc = .ok (.pop, 1))  : runF C d m (pc, L, .int x :: st, σ) = runF C d m (pc + 1, L, st, σ) :=
  runF_go ((st1 hd).trans (by
    simp only [stepI, gd, zPop, if_true, go]))
theorem r_popR {C : CF} {d : Nat} {m : MM} {pc : Nat} {L : LV} {st : List Value} {σ : HP} {x : Nat} (hd : decode (zb m) pc = .ok (.pop, 1))  : runF C d m (pc, L, .ref x :: st, σ) = runF C d m (pc + 1, L, st, σ) :=
  runF_go ((st1 hd).trans (by
    simp only [stepI, gd, zPop, if_true, go]))
theorem q_jmp {pc pt : Nat} {off : Int} {L : LV} {st : List Value} {σ : HP} (h : (pc : Int) + off = (pt : Int)) : jmp pc off L st σ = go pt L st σ := by
  unfold jmp
  rw [h, if_pos (Int.natCast_nonneg pt), Int.toNat_natCast]
theorem q_br {b : Bool} {pc pt : Nat} {off : Int} {L : LV} {st : List Value} {σ : HP} (h : (pc : Int) + off = (pt : Int)) : br b pc off L st σ = if b = true then go pt L st σ else go (pc + 3) L st σ := by
  unfold br
  rw [h, if_pos (Int.natCast_nonneg pt), Int.toNat_natCast]
  cases b <;> rfl
theorem r_br {C : CF} {d : Nat} {m : MM} {pc : Nat} {L : LV} {st : List Value} {σ : HP} {c : Prop} {_ : Decidable c} {pt : Nat} {st' : List Value} (h : step1 C d m (pc, L, st, σ) = if decide c = true then go pt L st' σ else go (pc + 3) L st' σ) : runF C d m (pc, L, st, σ) = if c then runF C d m (pt, L, st', σ) else runF C d m (pc + 3, L, st', σ) := by
  by_cases hc : c
  · rw [if_pos hc]
    exact runF_go (h.trans (by rw [if_pos (decide_eq_true hc)]; rfl))
  · rw [if_neg hc]
    exact runF_go (h.trans (by rw [if_neg (by simpa using hc)]; rfl))
theorem r_icmp_eq {C : CF} {d : Nat} {m : MM} {pc : Nat} {L : LV} {st : List Value} {σ : HP} {x y : Int32} {off : Int} (pt : Nat) (hd : decode (zb m) pc = .ok (.if_icmp .eq off, 3)) (hp : (pc : Int) + off = (pt : Int)) : runF C d m (pc, L, .int y :: .int x :: st, σ) = if x = y then runF C d m (pt, L, st, σ) else runF C d m (pc + 3, L, st, σ) :=
  r_br ((st1 hd).trans (by simp only [stepI, gd, zCmp, if_true]; exact q_br hp))
theorem r_icmp_ne {C : CF} {d : Nat} {m : MM} {pc : Nat} {L : LV} {st : List Value} {σ : HP} {x y : Int32} {off : Int} (pt : Nat) (hd : decode (zb m) pc = .ok (.if_icmp .ne off, 3)) (hp : (pc : Int) + off = (pt : Int)) : runF C d m (pc, L, .int y :: .int x :: st, σ) = if ¬ x = y then runF C d m (pt, L, st, σ) else runF C d m (pc + 3, L, st, σ) :=
  r_br ((st1 hd).trans (by simp only [stepI, gd, zCmp, if_true]; exact q_br hp))
theorem r_icmp_lt {C : CF} {d : Nat} {m : MM} {pc : Nat} {L : LV} {st : List Value} {σ : HP} {x y : Int32} {off : Int} (pt : Nat) (hd : decode (zb m) pc = .ok (.if_icmp .lt off, 3)) (hp : (pc : Int) + off = (pt : Int)) : runF C d m (pc, L, .int y :: .int x :: st, σ) = if x < y then runF C d m (pt, L, st, σ) else runF C d m (pc + 3, L, st, σ) :=
  r_br ((st1 hd).trans (by simp only [stepI, gd, zCmp, if_true]; exact q_br hp))
theorem r_icmp_ge {C : CF} {d : Nat} {m : MM} {pc : Nat} {L : LV} {st : List Value} {σ : HP} {x y : Int32} {off : Int} (pt : Nat) (hd : decode (zb m) pc = .ok (.if_icmp .ge off, 3)) (hp : (pc : Int) + off = (pt : Int)) : runF C d m (pc, L, .int y :: .int x :: st, σ) = if y ≤ x then runF C d m (pt, L, st, σ) else runF C d m (pc + 3, L, st, σ) :=
  r_br ((st1 hd).trans (by simp only [stepI, gd, zCmp, if_true]; exact q_br hp))
theorem r_icmp_gt {C : CF} {d : Nat} {m : MM} {pc : Nat} {L : LV} {st : List Value} {σ : HP} {x y : Int32} {off : Int} (pt : Nat) (hd : decode (zb m) pc = .ok (.if_icmp .gt off, 3)) (hp : (pc : Int) + off = (pt : Int)) : runF C d m (pc, L, .int y :: .int x :: st, σ) = if y < x then runF C d m (pt, L, st, σ) else runF C d m (pc + 3, L, st, σ) :=
  r_br ((st1 hd).trans (by simp only [stepI, gd, zCmp, if_true]; exact q_br hp))
theorem r_icmp_le {C : CF} {d : Nat} {m : MM} {pc : Nat} {L : LV} {st : List Value} {σ : HP} {x y : Int32} {off : Int} (pt : Nat) (hd : decode (zb m) pc = .ok (.if_icmp .le off, 3)) (hp : (pc : Int) + off = (pt : Int)) : runF C d m (pc, L, .int y :: .int x :: st, σ) = if x ≤ y then runF C d m (pt, L, st, σ) else runF C d m (pc + 3, L, st, σ) :=
  r_br ((st1 hd).trans (by simp only [stepI, gd, zCmp, if_true]; exact q_br hp))
theorem r_if_eq {C : CF} {d : Nat} {m : MM} {pc : Nat} {L : LV} {st : List Value} {σ : HP} {x : Int32} {off : Int} (pt : Nat) (hd : decode (zb m) pc = .ok (.ifCond .eq off, 3)) (hp : (pc : Int) + off = (pt : Int)) : runF C d m (pc, L, .int x :: st, σ) = if x = 0 then runF C d m (pt, L, st, σ) else runF C d m (pc + 3, L, st, σ) :=
  r_br ((st1 hd).trans (by simp only [stepI, gd, zIf, if_true]; exact q_br hp))
theorem r_if_ne {C : CF} {d : Nat} {m : MM} {pc : Nat} {L : LV} {st : List Value} {σ : HP} {x : Int32} {off : Int} (pt : Nat) (hd : decode (zb m) pc = .ok (.ifCond .ne off, 3)) (hp : (pc : Int) + off = (pt : Int)) : runF C d m (pc, L, .int x :: st, σ) = if ¬ x = 0 then runF C d m (pt, L, st, σ) else runF C d m (pc + 3, L, st, σ) :=
  r_br ((st1 hd).trans (by simp only [stepI, gd, zIf, if_true]; exact q_br hp))
theorem r_if_lt {C : CF} {d : Nat} {m : MM} {pc : Nat} {L : LV} {st : List Value} {σ : HP} {x : Int32} {off : Int} (pt : Nat) (hd : decode (zb m) pc = .ok (.ifCond .lt off, 3)) (hp : (pc : Int) + off = (pt : Int)) : runF C d m (pc, L, .int x :: st, σ) = if x < 0 then runF C d m (pt, L, st, σ) else runF C d m (pc + 3, L, st, σ) :=
  r_br ((st1 hd).trans (by simp only [stepI, gd, zIf, if_true]; exact q_br hp))
theorem r_if_ge {C : CF} {d : Nat} {m : MM} {pc : Nat} {L : LV} {st : List Value} {σ : HP} {x : Int32} {off : Int} (pt : Nat) (hd : decode (zb m) pc = .ok (.ifCond .ge off, 3)) (hp : (pc : Int) + off = (pt : Int)) : runF C d m (pc, L, .int x :: st, σ) = if 0 ≤ x then runF C d m (pt, L, st, σ) else runF C d m (pc + 3, L, st, σ) :=
  r_br ((st1 hd).trans (by simp only [stepI, gd, zIf, if_true]; exact q_br hp))
theorem r_if_gt {C : CF} {d : Nat} {m : MM} {pc : Nat} {L : LV} {st : List Value} {σ : HP} {x : Int32} {off : Int} (pt : Nat) (hd : decode (zb m) pc = .ok (.ifCond .gt off, 3)) (hp : (pc : Int) + off = (pt : Int)) : runF C d m (pc, L, .int x :: st, σ) = if 0 < x then runF C d m (pt, L, st, σ) else runF C d m (pc + 3, L, st, σ) :=
  r_br ((st1 hd).trans (by simp only [stepI, gd, zIf, if_true]; exact q_br hp))
theorem r_if_le {C : CF} {d : Nat} {m : MM} {pc : Nat} {L : LV} {st : List Value} {σ : HP} {x : Int32} {off : Int} (pt : Nat) (hd : decode (zb m) pc = .ok (.ifCond .le off, 3)) (hp : (pc : Int) + off = (pt : Int)) : runF C d m (pc, L, .int x :: st, σ) = if x ≤ 0 then runF C d m (pt, L, st, σ) else runF C d m (pc + 3, L, st, σ) :=
  r_br ((st1 hd).trans (by simp only [stepI, gd, zIf, if_true]; exact q_br hp))
theorem r_goto {C : CF} {d : Nat} {m : MM} {pc : Nat} {L : LV} {st : List Value} {σ : HP} {off : Int} (pt : Nat) (hd : decode (zb m) pc = .ok (.goto off, 3)) (hp : (pc : Int) + off = (pt : Int)) : runF C d m (pc, L, st, σ) = runF C d m (pt, L, st, σ) :=
  runF_go ((st1 hd).trans (by
    simp only [stepI, gd, if_true]; exact q_jmp hp))
theorem r_ifnull {C : CF} {d : Nat} {m : MM} {pc : Nat} {L : LV} {st : List Value} {σ : HP} {x : Option Nat} {off : Int} (pt : Nat) (hd : decode (zb m) pc = .ok (.ifnull off, 3)) (hp : (pc : Int) + off = (pt : Int)) : runF C d m (pc, L, rv x :: st, σ) = if x = none then runF C d m (pt, L, st, σ) else runF C d m (pc + 3, L, st, σ) := by
  cases x with
  | none =>
    rw [if_pos rfl]
    exact runF_go ((st1 hd).trans (by simp only [stepI, gd, if_true, zIfnull, rv]; exact q_jmp hp))
  | some a =>
    rw [if_neg (by simp)]
    exact runF_go ((st1 hd).trans (by simp only [stepI, gd, if_true, zIfnull, rv, go]))
theorem r_table {C : CF} {d : Nat} {m : MM} {pc : Nat} {L : LV} {st : List Value} {σ : HP} {x : Int32} {d0 lo hi : Int} {offs : Array Int} {n : Nat} (t : Nat) (hd : decode (zb m) pc = .ok (.tableswitch d0 lo hi offs, n)) (ht : zTable d0 lo hi offs pc L (.int x :: st) σ = go t L st σ) : runF C d m (pc, L, .int x :: st, σ) = runF C d m (t, L, st, σ) :=
  runF_go ((st1 hd).trans (by simp only [stepI]; exact ht))
theorem tb_in {x v : Int32} {d0 lo hi off : Int} {offs : Array Int} {pc t : Nat} {L : LV} {st : List Value} {σ : HP} (hx : x = v) (h1 : decide (v.toInt < lo ∨ hi < v.toInt) = false) (h2 : offs[(v.toInt - lo).toNat]? = some off) (hp : (pc : Int) + off = (t : Int)) : zTable d0 lo hi offs pc L (.int x :: st) σ = go t L st σ := by
  subst hx
  simp only [zTable]
  rw [if_neg (by simpa using of_decide_eq_false h1), h2]
  exact q_jmp hp
theorem tb_out {x : Int32} {d0 lo hi : Int} {offs : Array Int} {pc t : Nat} {L : LV} {st : List Value} {σ : HP} (h1 : x.toInt < lo ∨ hi < x.toInt) (hp : (pc : Int) + d0 = (t : Int)) : zTable d0 lo hi offs pc L (.int x :: st) σ = go t L st σ := by
  simp only [zTable]
  rw [if_pos h1]
  exact q_jmp hp
theorem ne_toInt {x v : Int32} (h : ¬ x = v) : x.toInt ≠ v.toInt := fun e => h (Int32.toInt_inj.mp e)
theorem r_look {C : CF} {d : Nat} {m : MM} {pc : Nat} {L : LV} {st : List Value} {σ : HP} {x : Int32} {d0 : Int} {ps : Array (Int × Int)} {n : Nat} (t : Nat) (hd : decode (zb m) pc = .ok (.lookupswitch d0 ps, n)) (ht : zLook d0 ps pc L (.int x :: st) σ = go t L st σ) : runF C d m (pc, L, .int x :: st, σ) = runF C d m (t, L, st, σ) :=
  runF_go ((st1 hd).trans (by simp only [stepI]; exact ht))
theorem lk_any {x : Int32} {d0 : Int} {ps : Array (Int × Int)} {pc t : Nat} {L : LV} {st : List Value} {σ : HP} (h1 : (ps.toList.zip (ps.toList.drop 1)).all (fun (a, next) => a.1 < next.1) = true) (hp : (pc : Int) + Op.lookupswitch.offset ps.toList d0 x.toInt = (t : Int)) : zLook d0 ps pc L (.int x :: st) σ = go t L st σ := by
  simp only [zLook]
  rw [if_pos h1]
  exact q_jmp hp
theorem r_getI {C : CF} {d : Nat} {m : MM} {pc : Nat} {L : LV} {st : List Value} {σ : HP} {a ci k idx : Nat} (hd : decode (zb m) pc = .ok (.getfield idx, 3)) (hf : fl (zo m) idx = some (ci, k)) (ht : zft ci k = 0) (ha : a % 64 = ci) : runF C d m (pc, L, .ref a :: st, σ) = runF C d m (pc + 3, L, .int (gI σ a k) :: st, σ) :=
  runF_go ((st1 hd).trans (by
    simp only [stepI, gd, if_true, zGet, hf, ha, ht, go]))
theorem r_getR {C : CF} {d : Nat} {m : MM} {pc : Nat} {L : LV} {st : List Value} {σ : HP} {a ci k idx : Nat} (hd : decode (zb m) pc = .ok (.getfield idx, 3)) (hf : fl (zo m) idx = some (ci, k)) (ht : decide (zft ci k = 0) = false) (ha : a % 64 = ci) (hs : (gR σ a k).isSome = true) : runF C d m (pc, L, .ref a :: st, σ) = runF C d m (pc + 3, L, .ref (dr (gR σ a k)) :: st, σ) :=
  runF_go ((st1 hd).trans (by
    simp only [stepI, gd, if_true, zGet, hf, ha, if_neg (of_decide_eq_false ht), rv_dr hs, go]))
theorem r_putI {C : CF} {d : Nat} {m : MM} {pc : Nat} {L : LV} {st : List Value} {σ : HP} {a ci k idx : Nat} {x : Int32} (hd : decode (zb m) pc = .ok (.putfield idx, 3)) (hf : fl (zo m) idx = some (ci, k)) (hq : decide (zfin ci k = true ∧ ¬ (zi m = true ∧ zo m = ci)) = false) (ht : zft ci k = 0) (ha : a % 64 = ci) : runF C d m (pc, L, .int x :: .ref a :: st, σ) = runF C d m (pc + 3, L, st, wI σ a k x) :=
  runF_go ((st1 hd).trans (by
    simp only [stepI, gd, if_true, zPut, hf, if_neg (of_decide_eq_false hq), ha, ht, and_self, go]))
theorem r_putR {C : CF} {d : Nat} {m : MM} {pc : Nat} {L : LV} {st : List Value} {σ : HP} {a b ci k idx : Nat} (hd : decode (zb m) pc = .ok (.putfield idx, 3)) (hf : fl (zo m) idx = some (ci, k)) (hq : decide (zfin ci k = true ∧ ¬ (zi m = true ∧ zo m = ci)) = false) (ht : decide (zft ci k = 0) = false) (ha : a % 64 = ci) : runF C d m (pc, L, .ref b :: .ref a :: st, σ) = runF C d m (pc + 3, L, st, wR σ a k (some b)) :=
  runF_go ((st1 hd).trans (by
    simp only [stepI, gd, if_true, zPut, hf, if_neg (of_decide_eq_false hq), ha, ne_eq, of_decide_eq_false ht, not_false_eq_true, and_self, go]))
theorem r_arrI {C : CF} {d : Nat} {m : MM} {pc : Nat} {L : LV} {st : List Value} {σ : HP} {x : Int32} {k : Nat} (hd : decode (zb m) pc = .ok (.newarray .int, 2)) (hx : ¬ x < 0) (hk : arrK 1 x.toNatClampNeg = some k) : runF C d m (pc, L, .int x :: st, σ) = runF C d m (pc + 2, L, .ref (k + 64 * hN σ) :: st, hA σ k (alen k)) :=
  runF_go ((st1 hd).trans (by
    simp only [stepI, gd, if_true, zArr, if_neg hx, hk, go]))
theorem r_arrJ {C : CF} {d : Nat} {m : MM} {pc : Nat} {L : LV} {st : List Value} {σ : HP} {x : Int32} {k : Nat} (hd : decode (zb m) pc = .ok (.newarray .long, 2)) (hx : ¬ x < 0) (hk : arrK 2 x.toNatClampNeg = some k) : runF C d m (pc, L, .int x :: st, σ) = runF C d m (pc + 2, L, .ref (k + 64 * hN σ) :: st, hA σ k (alen k)) :=
  runF_go ((st1 hd).trans (by
    simp only [stepI, gd, if_true, zArr, if_neg hx, hk, go]))
theorem r_arrB {C : CF} {d : Nat} {m : MM} {pc : Nat} {L : LV} {st : List Value} {σ : HP} {x : Int32} {k : Nat} (hd : decode (zb m) pc = .ok (.newarray .byte, 2)) (hx : ¬ x < 0) (hk : arrK 3 x.toNatClampNeg = some k) : runF C d m (pc, L, .int x :: st, σ) = runF C d m (pc + 2, L, .ref (k + 64 * hN σ) :: st, hA σ k (alen k)) :=
  runF_go ((st1 hd).trans (by
    simp only [stepI, gd, if_true, zArr, if_neg hx, hk, go]))
theorem r_arrA {C : CF} {d : Nat} {m : MM} {pc : Nat} {L : LV} {st : List Value} {σ : HP} {x : Int32} {k e idx : Nat} (hd : decode (zb m) pc = .ok (.anewarray idx, 3)) (he : al (zo m) idx = some e) (hx : ¬ x < 0) (hk : arrK e x.toNatClampNeg = some k) : runF C d m (pc, L, .int x :: st, σ) = runF C d m (pc + 3, L, .ref (k + 64 * hN σ) :: st, hA σ k (alen k)) :=
  runF_go ((st1 hd).trans (by
    simp only [stepI, gd, if_true, he, zArr, if_neg hx, hk, go]))
theorem r_alen {C : CF} {d : Nat} {m : MM} {pc : Nat} {L : LV} {st : List Value} {σ : HP} {a : Nat} (hd : decode (zb m) pc = .ok (.arraylength, 1)) (ha : ¬ aty (a % 64) = 0) : runF C d m (pc, L, .ref a :: st, σ) = runF C d m (pc + 1, L, .int (Int32.ofNat (alen (a % 64))) :: st, σ) :=
  runF_go ((st1 hd).trans (by
    have h18 : ¬ a % 64 = 18 := fun h => ha (by rw [h]; rfl)
    simp only [stepI, gd, if_true, zAlen, if_neg h18, ne_eq, ha, not_false_eq_true, go]))
theorem r_alen18 {C : CF} {d : Nat} {m : MM} {pc : Nat} {L : LV} {st : List Value} {σ : HP}  (hd : decode (zb m) pc = .ok (.arraylength, 1))  : runF C d m (pc, L, .ref 18 :: st, σ) = runF C d m (pc + 1, L, .int (Int32.ofNat (hL σ)) :: st, σ) :=
  runF_go ((st1 hd).trans (by
    simp only [stepI, gd, if_true, zAlen, Nat.reduceMod, go]))
theorem r_iald {C : CF} {d : Nat} {m : MM} {pc : Nat} {L : LV} {st : List Value} {σ : HP} {a : Nat} {i : Int32} (hd : decode (zb m) pc = .ok (.iaload, 1)) (ha : aty (a % 64) = 1) (hi : inR i (alen (a % 64)) = true) : runF C d m (pc, L, .int i :: .ref a :: st, σ) = runF C d m (pc + 1, L, .int (gI σ a i.toNatClampNeg) :: st, σ) :=
  runF_go ((st1 hd).trans (by
    have h18 : ¬ a = 18 := fun h => by rw [h] at ha; revert ha; decide
    simp only [stepI, gd, if_true, zIald, if_neg h18, ha, hi, and_self, go]))
theorem r_iald18 {C : CF} {d : Nat} {m : MM} {pc : Nat} {L : LV} {st : List Value} {σ : HP} {i : Int32} (hd : decode (zb m) pc = .ok (.iaload, 1)) (hi : inR i (hL σ) = true) : runF C d m (pc, L, .int i :: .ref 18 :: st, σ) = runF C d m (pc + 1, L, .int (gI σ 18 i.toNatClampNeg) :: st, σ) :=
  runF_go ((st1 hd).trans (by
    simp only [stepI, gd, if_true, zIald, hi, go]))
theorem r_iast {C : CF} {d : Nat} {m : MM} {pc : Nat} {L : LV} {st : List Value} {σ : HP} {a : Nat} {i x : Int32} (hd : decode (zb m) pc = .ok (.iastore, 1)) (ha : aty (a % 64) = 1) (hi : inR i (alen (a % 64)) = true) : runF C d m (pc, L, .int x :: .int i :: .ref a :: st, σ) = runF C d m (pc + 1, L, st, wI σ a i.toNatClampNeg x) :=
  runF_go ((st1 hd).trans (by
    simp only [stepI, gd, if_true, zIast, ha, hi, and_self, go]))
theorem r_bald {C : CF} {d : Nat} {m : MM} {pc : Nat} {L : LV} {st : List Value} {σ : HP} {a : Nat} {i : Int32} (hd : decode (zb m) pc = .ok (.baload, 1)) (ha : aty (a % 64) = 3) (hi : inR i (alen (a % 64)) = true) : runF C d m (pc, L, .int i :: .ref a :: st, σ) = runF C d m (pc + 1, L, .int (gI σ a i.toNatClampNeg) :: st, σ) :=
  runF_go ((st1 hd).trans (by
    simp only [stepI, gd, if_true, zBald, ha, hi, and_self, go]))
theorem r_bast {C : CF} {d : Nat} {m : MM} {pc : Nat} {L : LV} {st : List Value} {σ : HP} {a : Nat} {i x : Int32} (hd : decode (zb m) pc = .ok (.bastore, 1)) (ha : aty (a % 64) = 3) (hi : inR i (alen (a % 64)) = true) : runF C d m (pc, L, .int x :: .int i :: .ref a :: st, σ) = runF C d m (pc + 1, L, st, wI σ a i.toNatClampNeg (p_byte x)) :=
  runF_go ((st1 hd).trans (by
    simp only [stepI, gd, if_true, zBast, ha, hi, and_self, go, p_byte]))
theorem r_lald {C : CF} {d : Nat} {m : MM} {pc : Nat} {L : LV} {st : List Value} {σ : HP} {a : Nat} {i : Int32} (hd : decode (zb m) pc = .ok (.laload, 1)) (ha : aty (a % 64) = 2) (hi : inR i (alen (a % 64)) = true) : runF C d m (pc, L, .int i :: .ref a :: st, σ) = runF C d m (pc + 1, L, .long (gJ σ a i.toNatClampNeg) :: st, σ) :=
  runF_go ((st1 hd).trans (by
    simp only [stepI, gd, if_true, zLald, ha, hi, and_self, go]))
theorem r_last {C : CF} {d : Nat} {m : MM} {pc : Nat} {L : LV} {st : List Value} {σ : HP} {a : Nat} {i : Int32} {x : Int64} (hd : decode (zb m) pc = .ok (.lastore, 1)) (ha : aty (a % 64) = 2) (hi : inR i (alen (a % 64)) = true) : runF C d m (pc, L, .long x :: .int i :: .ref a :: st, σ) = runF C d m (pc + 1, L, st, wJ σ a i.toNatClampNeg x) :=
  runF_go ((st1 hd).trans (by
    simp only [stepI, gd, if_true, zLast, ha, hi, and_self, go]))
theorem r_aald {C : CF} {d : Nat} {m : MM} {pc : Nat} {L : LV} {st : List Value} {σ : HP} {a : Nat} {i : Int32} (hd : decode (zb m) pc = .ok (.aaload, 1)) (ha : aty (a % 64) = 4 ∨ aty (a % 64) = 5) (hi : inR i (alen (a % 64)) = true) : runF C d m (pc, L, .int i :: .ref a :: st, σ) = runF C d m (pc + 1, L, rv (gR σ a i.toNatClampNeg) :: st, σ) :=
  runF_go ((st1 hd).trans (by
    simp only [stepI, gd, if_true, zAald, ha, hi, and_self, go]))
def stOK (a : Nat) (r : Option Nat) : Prop := match r with
  | some b => (aty (a % 64) = 4 ∧ b % 64 = 1) ∨ (aty (a % 64) = 5 ∧ b % 64 = 3)
  | none => aty (a % 64) = 4 ∨ aty (a % 64) = 5
theorem r_aast {C : CF} {d : Nat} {m : MM} {pc : Nat} {L : LV} {st : List Value} {σ : HP} {a : Nat} {i : Int32} {r : Option Nat} (hd : decode (zb m) pc = .ok (.aastore, 1)) (ha : stOK a r) (hi : inR i (alen (a % 64)) = true) : runF C d m (pc, L, rv r :: .int i :: .ref a :: st, σ) = runF C d m (pc + 1, L, st, wR σ a i.toNatClampNeg r) :=
  runF_go ((st1 hd).trans (by
    cases r with
    | none => simp only [stepI, gd, if_true, zAast, rv, show (aty (a % 64) = 4 ∨ aty (a % 64) = 5) from ha, hi, and_self, go]
    | some b => simp only [stepI, gd, if_true, zAast, rv, show ((aty (a % 64) = 4 ∧ b % 64 = 1) ∨ (aty (a % 64) = 5 ∧ b % 64 = 3)) from ha, hi, and_self, go]))
theorem r_aastR {C : CF} {d : Nat} {m : MM} {pc : Nat} {L : LV} {st : List Value} {σ : HP} {a b : Nat} {i : Int32} (hd : decode (zb m) pc = .ok (.aastore, 1)) (ha : stOK a (some b)) (hi : inR i (alen (a % 64)) = true) : runF C d m (pc, L, .ref b :: .int i :: .ref a :: st, σ) = runF C d m (pc + 1, L, st, wR σ a i.toNatClampNeg (some b)) :=
  runF_go ((st1 hd).trans (by
    simp only [stepI, gd, if_true, zAast, show ((aty (a % 64) = 4 ∧ b % 64 = 1) ∨ (aty (a % 64) = 5 ∧ b % 64 = 3)) from ha, hi, and_self, go]))
theorem r_new {C : CF} {d : Nat} {m : MM} {pc : Nat} {L : LV} {st : List Value} {σ : HP} {ci idx : Nat} (hd : decode (zb m) pc = .ok (.new idx, 3)) (hk : kl (zo m) idx = some ci) : runF C d m (pc, L, st, σ) = runF C d m (pc + 3, L, .ref (ci + 64 * hN σ) :: st, hA σ ci (zN ci)) :=
  runF_go ((st1 hd).trans (by
    simp only [stepI, gd, if_true, zNew, hk, go]))
theorem r_thr {C : CF} {d : Nat} {m : MM} {pc : Nat} {L : LV} {σ : HP} {x is ic idx : Nat} (hd : decode (zb m) pc = .ok (.new idx, 3)) (hk : kl (zo m) idx = none) (hx : xl (zo m) idx = some (x, is, ic)) (hz : zh m = []) (h3 : decode (zb m) (pc + 3) = .ok (.dup, 1)) (h4 : decode (zb m) (pc + 4) = .ok (.ldc_w is, 3)) (h7 : decode (zb m) (pc + 7) = .ok (.invokespecial ic, 3)) (h10 : decode (zb m) (pc + 10) = .ok (.athrow, 1)) (hD : 20 ≤ d) : runF C d m (pc, L, [], σ) = some (.inr x, hA σ 63 6) :=
  runF_end ((st1 hd).trans (by simp only [stepI, gd, if_true, zNew, hk, hx, hz, h3, h4, h7, h10, hD, and_self]))
noncomputable def bk (C : CF) (d : Nat) (m : MM) (pc : Nat) (L : LV) (rest : List Value) (o : Option Res) : Option Res := match zBack m pc L rest o with
  | none => none
  | some (.inl r) => some r
  | some (.inr c) => runF C d m c
noncomputable def bkN (C : CF) (d : Nat) (m : MM) (pc : Nat) (L : LV) (rest : List Value) (o : Option Res) : Option Res := match o with
  | some (.inl v, σ') => runF C d m (pc + 3, L, pv v rest, σ')
  | _ => none
theorem bk_int {C : CF} {d : Nat} {m : MM} {pc : Nat} {L : LV} {rest : List Value} {v : Int32} {σ : HP} : bk C d m pc L rest (some (.inl (some (.int v)), σ)) = runF C d m (pc + 3, L, .int v :: rest, σ) := rfl
theorem bk_long {C : CF} {d : Nat} {m : MM} {pc : Nat} {L : LV} {rest : List Value} {v : Int64} {σ : HP} : bk C d m pc L rest (some (.inl (some (.long v)), σ)) = runF C d m (pc + 3, L, .long v :: rest, σ) := rfl
theorem bk_void {C : CF} {d : Nat} {m : MM} {pc : Nat} {L : LV} {rest : List Value} {σ : HP} : bk C d m pc L rest (some (.inl none, σ)) = runF C d m (pc + 3, L, rest, σ) := rfl
theorem bkN_int {C : CF} {d : Nat} {m : MM} {pc : Nat} {L : LV} {rest : List Value} {v : Int32} {σ : HP} : bkN C d m pc L rest (some (.inl (some (.int v)), σ)) = runF C d m (pc + 3, L, .int v :: rest, σ) := rfl
theorem bkN_long {C : CF} {d : Nat} {m : MM} {pc : Nat} {L : LV} {rest : List Value} {v : Int64} {σ : HP} : bkN C d m pc L rest (some (.inl (some (.long v)), σ)) = runF C d m (pc + 3, L, .long v :: rest, σ) := rfl
theorem bkN_void {C : CF} {d : Nat} {m : MM} {pc : Nat} {L : LV} {rest : List Value} {σ : HP} : bkN C d m pc L rest (some (.inl none, σ)) = runF C d m (pc + 3, L, rest, σ) := rfl
theorem bk_thr {C : CF} {d : Nat} {m : MM} {pc : Nat} {L : LV} {rest : List Value} {x : Nat} {σ : HP} (hz : zh m = []) : bk C d m pc L rest (some (.inr x, σ)) = some (.inr x, σ) := by
  simp only [bk, zBack, hz, if_true]
theorem runF_back {C : CF} {d : Nat} {m : MM} {c : Cfg} {pc : Nat} {L : LV} {rest : List Value} {o : Option Res} (h : step1 C d m c = zBack m pc L rest o) : runF C d m c = bk C d m pc L rest o := by
  unfold bk
  cases hz : zBack m pc L rest o with
  | none => exact runF_none (h.trans hz)
  | some q =>
    cases q with
    | inl r => exact runF_end (h.trans hz)
    | inr c' => exact runF_go (h.trans hz)
theorem r_virt {C : CF} {d : Nat} {m : MM} {pc : Nat} {L : LV} {st : List Value} {σ : HP} {idx a : Nat} {m' : MM} {args rest : List Value} (hd : decode (zb m) pc = .ok (.invokevirtual idx, 3)) (hm : ml (zo m) idx = some (1, m')) (hn : (args.length + 1 == zn m' && decide (cW rest ≤ 8)) = true) (hs : st = (.ref a :: args).reverse ++ rest) (ha : a % 64 = zo m') : runF C d m (pc, L, st, σ) = bk C d m pc L rest (C m' (.ref a :: args) σ) := by
  simp only [Bool.and_eq_true, beq_iff_eq, decide_eq_true_eq] at hn
  have h1 : st.take (zn m') = (.ref a :: args).reverse := by
    rw [hs, ← hn.1, List.take_left' (by simp)]
  have h2 : st.drop (zn m') = rest := by
    rw [hs, ← hn.1, List.drop_left' (by simp)]
  have h3 : zn m' ≤ st.length := by
    rw [hs, ← hn.1]
    simp only [List.length_append, List.length_reverse, List.length_cons]
    omega
  refine runF_back ((st1 hd).trans ?_)
  simp only [stepI, gd, if_true, zVirt, hm, h1, List.reverse_reverse, ha, zCall, h2, h3, hn.2, and_self]
theorem runF_backN {C : CF} {d : Nat} {m : MM} {c : Cfg} {pc : Nat} {L : LV} {rest : List Value} {o : Option Res} (h : step1 C d m c = match o with
    | some (.inl v, σ') => go (pc + 3) L (pv v rest) σ'
    | _ => none) : runF C d m c = bkN C d m pc L rest o := by
  unfold bkN
  cases o with
  | none => exact runF_none h
  | some q =>
    obtain ⟨q1, q2⟩ := q
    cases q1 with
    | inl v => exact runF_go h
    | inr x => exact runF_none h
theorem r_spec {C : CF} {d : Nat} {m : MM} {pc : Nat} {L : LV} {st : List Value} {σ : HP} {idx a k : Nat} {m' : MM} {args rest : List Value} (hd : decode (zb m) pc = .ok (.invokespecial idx, 3)) (hm : ml (zo m) idx = some (k, m')) (hk : k = 2 ∨ k = 3) (hn : (args.length + 1 == zn m' && decide (cW rest ≤ 8)) = true) (hs : st = (.ref a :: args).reverse ++ rest) (ha : a % 64 = zo m') : runF C d m (pc, L, st, σ) = bkN C d m pc L rest (C m' (.ref a :: args) σ) := by
  simp only [Bool.and_eq_true, beq_iff_eq, decide_eq_true_eq] at hn
  have h1 : st.take (zn m') = (.ref a :: args).reverse := by
    rw [hs, ← hn.1, List.take_left' (by simp)]
  have h2 : st.drop (zn m') = rest := by
    rw [hs, ← hn.1, List.drop_left' (by simp)]
  have h3 : zn m' ≤ st.length := by
    rw [hs, ← hn.1]
    simp only [List.length_append, List.length_reverse, List.length_cons]
    omega
  refine runF_backN ((st1 hd).trans ?_)
  rcases hk with rfl | rfl <;> simp only [stepI, gd, if_true, zSpec, hm, h1, List.reverse_reverse, ha, zCallN, h2, h3, hn.2, and_self] <;> rfl
theorem r_stat {C : CF} {d : Nat} {m : MM} {pc : Nat} {L : LV} {st : List Value} {σ : HP} {idx k : Nat} {m' : MM} {args rest : List Value} (hd : decode (zb m) pc = .ok (.invokestatic idx, 3)) (hm : ml (zo m) idx = some (k, m')) (hk : k = 0 ∨ k = 4 ∨ k = 6) (hn : (args.length == zn m' && decide (cW rest ≤ 8)) = true) (hs : st = args.reverse ++ rest) : runF C d m (pc, L, st, σ) = bkN C d m pc L rest (C m' args σ) := by
  simp only [Bool.and_eq_true, beq_iff_eq, decide_eq_true_eq] at hn
  have h1 : st.take (zn m') = args.reverse := by
    rw [hs, ← hn.1, List.take_left' (by simp)]
  have h2 : st.drop (zn m') = rest := by
    rw [hs, ← hn.1, List.drop_left' (by simp)]
  have h3 : zn m' ≤ st.length := by
    rw [hs, ← hn.1]
    simp only [List.length_append, List.length_reverse]
    omega
  refine runF_backN ((st1 hd).trans ?_)
  rcases hk with rfl | rfl | rfl <;> simp only [stepI, gd, if_true, zStat, hm, h1, List.reverse_reverse, zCallN, h2, h3, hn.2, and_self] <;> rfl
theorem r_obj {C : CF} {d : Nat} {m : MM} {pc : Nat} {L : LV} {st : List Value} {σ : HP} {a idx : Nat} {m0 : MM} (hd : decode (zb m) pc = .ok (.invokespecial idx, 3)) (hm : ml (zo m) idx = some (7, m0)) (ha : a % 64 ≤ 12) (hr : decide (cW st ≤ 8) = true) : runF C d m (pc, L, .ref a :: st, σ) = runF C d m (pc + 3, L, st, σ) :=
  runF_go ((st1 hd).trans (by
    simp only [stepI, gd, if_true, zSpec, hm, ha, of_decide_eq_true hr, and_self, go]))
theorem r_slen {C : CF} {d : Nat} {m : MM} {pc : Nat} {L : LV} {st : List Value} {σ : HP} {a idx : Nat} {m0 : MM} (hd : decode (zb m) pc = .ok (.invokevirtual idx, 3)) (hm : ml (zo m) idx = some (9, m0)) (hD : 4 ≤ d) (ha : a % 64 = 16) (hb : a / 64 < 27) (hr : decide (cW st ≤ 8) = true) : runF C d m (pc, L, .ref a :: st, σ) = runF C d m (pc + 3, L, .int (Int32.ofNat (slen (a / 64))) :: st, σ) :=
  runF_go ((st1 hd).trans (by
    simp only [stepI, gd, if_true, zVirt, hm, hD, ha, hb, of_decide_eq_true hr, and_self, go]))
theorem r_char {C : CF} {d : Nat} {m : MM} {pc : Nat} {L : LV} {st : List Value} {σ : HP} {a idx : Nat} {i : Int32} {m0 : MM} (hd : decode (zb m) pc = .ok (.invokevirtual idx, 3)) (hm : ml (zo m) idx = some (10, m0)) (hD : 4 ≤ d) (ha : a % 64 = 16) (hb : a / 64 < 27) (hr : decide (cW st ≤ 8) = true) (hi : inR i (slen (a / 64)) = true) : runF C d m (pc, L, .int i :: .ref a :: st, σ) = runF C d m (pc + 3, L, .int (sbyt (a / 64) i.toNatClampNeg) :: st, σ) :=
  runF_go ((st1 hd).trans (by
    simp only [stepI, gd, if_true, zVirt, hm, hD, ha, hb, hi, of_decide_eq_true hr, and_self, go]))
def cpOK (a b : Nat) (p q n : Int32) : Prop := a ≠ b ∧ aty (a % 64) = 1 ∧ aty (b % 64) = 1 ∧ ¬ p < 0 ∧ ¬ q < 0 ∧ ¬ n < 0 ∧ p.toNatClampNeg + n.toNatClampNeg ≤ alen (a % 64) ∧ q.toNatClampNeg + n.toNatClampNeg ≤ alen (b % 64)
theorem r_copy {C : CF} {d : Nat} {m : MM} {pc : Nat} {L : LV} {st : List Value} {σ : HP} {a b idx : Nat} {p q n : Int32} {m0 : MM} (hd : decode (zb m) pc = .ok (.invokestatic idx, 3)) (hm : ml (zo m) idx = some (8, m0)) (hc : cpOK a b p q n) (hr : decide (cW st ≤ 8) = true) : runF C d m (pc, L, .int n :: .int q :: .ref b :: .int p :: .ref a :: st, σ) = runF C d m (pc + 3, L, st, cI σ a p.toNatClampNeg b q.toNatClampNeg n.toNatClampNeg) :=
  runF_go ((st1 hd).trans (by
    obtain ⟨c1, c2, c3, c4, c5, c6, c7, c8⟩ := hc
    simp only [stepI, gd, if_true, zStat, hm]
    rw [if_pos ⟨c1, c2, c3, c4, c5, c6, c7, c8, of_decide_eq_true hr⟩]
    rfl))
theorem r_min {C : CF} {d : Nat} {m : MM} {pc : Nat} {L : LV} {st : List Value} {σ : HP} {x y : Int32} {idx : Nat} {m0 : MM} (hd : decode (zb m) pc = .ok (.invokestatic idx, 3)) (hm : ml (zo m) idx = some (11, m0)) (hr : decide (cW st ≤ 8) = true) : runF C d m (pc, L, .int y :: .int x :: st, σ) = runF C d m (pc + 3, L, .int (p_min x y) :: st, σ) :=
  runF_go ((st1 hd).trans (by
    simp only [stepI, gd, if_true, zStat, hm, of_decide_eq_true hr, go, p_min, p_max, p_abs]))
theorem r_max {C : CF} {d : Nat} {m : MM} {pc : Nat} {L : LV} {st : List Value} {σ : HP} {x y : Int32} {idx : Nat} {m0 : MM} (hd : decode (zb m) pc = .ok (.invokestatic idx, 3)) (hm : ml (zo m) idx = some (12, m0)) (hr : decide (cW st ≤ 8) = true) : runF C d m (pc, L, .int y :: .int x :: st, σ) = runF C d m (pc + 3, L, .int (p_max x y) :: st, σ) :=
  runF_go ((st1 hd).trans (by
    simp only [stepI, gd, if_true, zStat, hm, of_decide_eq_true hr, go, p_min, p_max, p_abs]))
theorem r_abs {C : CF} {d : Nat} {m : MM} {pc : Nat} {L : LV} {st : List Value} {σ : HP} {x : Int32} {idx : Nat} {m0 : MM} (hd : decode (zb m) pc = .ok (.invokestatic idx, 3)) (hm : ml (zo m) idx = some (13, m0)) (hr : decide (cW st ≤ 8) = true) : runF C d m (pc, L, .int x :: st, σ) = runF C d m (pc + 3, L, .int (p_abs x) :: st, σ) :=
  runF_go ((st1 hd).trans (by
    simp only [stepI, gd, if_true, zStat, hm, of_decide_eq_true hr, go, p_min, p_max, p_abs]))
theorem r_iret {C : CF} {d : Nat} {m : MM} {pc : Nat} {L : LV} {σ : HP} {v : Int32} {ty : FieldType} (hd : decode (zb m) pc = .ok (.ireturn, 1)) (hz : zr m = some ty) (hn : narrow ty (.int v) = .int v) : runF C d m (pc, L, [.int v], σ) = some (.inl (some (.int v)), σ) :=
  runF_end ((st1 hd).trans (by simp only [stepI, gd, if_true, zIret, hz, hn]))
theorem r_bret {C : CF} {d : Nat} {m : MM} {pc : Nat} {L : LV} {σ : HP} {v : Int32} (hd : decode (zb m) pc = .ok (.ireturn, 1)) (hz : zr m = some .boolean) (hn : v = 0 ∨ v = 1) : runF C d m (pc, L, [.int v], σ) = some (.inl (some (.int v)), σ) :=
  r_iret hd hz (by rcases hn with rfl | rfl <;> rfl)
theorem r_lret {C : CF} {d : Nat} {m : MM} {pc : Nat} {L : LV} {σ : HP} {v : Int64} (hd : decode (zb m) pc = .ok (.lreturn, 1)) (hz : zr m = some .long) : runF C d m (pc, L, [.long v], σ) = some (.inl (some (.long v)), σ) :=
  runF_end ((st1 hd).trans (by simp only [stepI, gd, if_true, zLret, hz]))
theorem r_vret {C : CF} {d : Nat} {m : MM} {pc : Nat} {L : LV} {σ : HP} (hd : decode (zb m) pc = .ok (.return_, 1)) (hz : zr m = none) : runF C d m (pc, L, [], σ) = some (.inl none, σ) :=
  runF_end ((st1 hd).trans (by simp only [stepI, gd, if_true, zVret, hz]))
theorem callF_in {d : Nat} {m : MM} {a : List Value} {σ : HP} {L : LV} (h : entOK m a = true) (hL : ent (zl m) a = L) : callF (d + 1) m a σ = runF (callF d) d m (0, L, [], σ) := by
  simp only [callF, h, if_true, hL]
