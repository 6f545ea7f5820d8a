/-! A SMALL MACHINE: objects by numbers (kind + 64 * serial), ints, longs and references apart; what it answers, the real one answers (a later part). -/
abbrev HP : Type := (Nat × Nat × Nat × (Nat → Nat)) × (Nat → Nat → Int32) × (Nat → Nat → Int64) × (Nat → Nat → Option Nat)
def hN (σ : HP) : Nat := σ.1.1
def hS (σ : HP) : Nat := σ.1.2.1
def hL (σ : HP) : Nat := σ.1.2.2.1
def hK (σ : HP) (i : Nat) : Nat := σ.1.2.2.2 i
def gI (σ : HP) (a j : Nat) : Int32 := σ.2.1 a j
def gJ (σ : HP) (a j : Nat) : Int64 := σ.2.2.1 a j
def gR (σ : HP) (a j : Nat) : Option Nat := σ.2.2.2 a j
def wI (σ : HP) (a j : Nat) (v : Int32) : HP := (σ.1, (fun x y => if x = a ∧ y = j then v else σ.2.1 x y), σ.2.2.1, σ.2.2.2)
def wJ (σ : HP) (a j : Nat) (v : Int64) : HP := (σ.1, σ.2.1, (fun x y => if x = a ∧ y = j then v else σ.2.2.1 x y), σ.2.2.2)
def wR (σ : HP) (a j : Nat) (v : Option Nat) : HP := (σ.1, σ.2.1, σ.2.2.1, (fun x y => if x = a ∧ y = j then v else σ.2.2.2 x y))
/-- a stretch of ints copied from one row to another -/
def cI (σ : HP) (a p b q n : Nat) : HP := (σ.1, (fun x y => if x = b ∧ q ≤ y ∧ y < q + n then σ.2.1 a (p + (y - q)) else σ.2.1 x y), σ.2.2.1, σ.2.2.2)
/-- a new thing of kind k with n places -/
def hA (σ : HP) (k n : Nat) : HP := ((σ.1.1 + 1, σ.1.2.1 + n, σ.1.2.2.1, (fun i => if i = σ.1.1 then k else σ.1.2.2.2 i)),
  (fun x y => if x = k + 64 * σ.1.1 then 0 else σ.2.1 x y), (fun x y => if x = k + 64 * σ.1.1 then 0 else σ.2.2.1 x y), (fun x y => if x = k + 64 * σ.1.1 then none else σ.2.2.2 x y))
def rv (r : Option Nat) : Value := match r with
  | none => .null
  | some a => .ref a
abbrev Out : Type := Option Value ⊕ Nat
abbrev Res : Type := Out × HP
abbrev LV : Type := List (Option Value)
abbrev Cfg : Type := Nat × LV × List Value × HP
abbrev SR : Type := Option (Res ⊕ Cfg)
abbrev CF : Type := MM → List Value → HP → Option Res
def go (pc : Nat) (L : LV) (st : List Value) (σ : HP) : SR := some (.inr (pc, L, st, σ))
def jmp (pc : Nat) (off : Int) (L : LV) (st : List Value) (σ : HP) : SR := if 0 ≤ (pc : Int) + off then go ((pc : Int) + off).toNat L st σ else none
def br (c : Bool) (pc : Nat) (off : Int) (L : LV) (st : List Value) (σ : HP) : SR := if 0 ≤ (pc : Int) + off then (match c with
  | true => go ((pc : Int) + off).toNat L st σ
  | false => go (pc + 3) L st σ) else none
/-- how many words these values take -/
def cW (r : List Value) : Nat := (r.map fun v => v.category).sum
def inR (i : Int32) (n : Nat) : Bool := decide (¬ (i < 0 ∨ n ≤ i.toNatClampNeg))
def okS (S : List Nat) (i : Nat) : Bool := match i with
  | 0 => true
  | j + 1 => !(S.contains j)
def ld (L : LV) (i : Nat) : Option Value := match L[i]? with
  | some (some v) => some v
  | _ => none
def zLoadI (i n pc : Nat) (L : LV) (st : List Value) (σ : HP) : SR := match ld L i with
  | some (.int x) => go (pc + n) L (.int x :: st) σ
  | _ => none
def zLoadL (i n pc : Nat) (L : LV) (st : List Value) (σ : HP) : SR := match ld L i with
  | some (.long x) => go (pc + n) L (.long x :: st) σ
  | _ => none
def zLoadA (i n pc : Nat) (L : LV) (st : List Value) (σ : HP) : SR := match ld L i with
  | some (.ref x) => go (pc + n) L (.ref x :: st) σ
  | some .null => go (pc + n) L (.null :: st) σ
  | _ => none
/-- what stands before place i is no long: by the method's list, or as it is -/
def okD (S : List Nat) (L : LV) (i : Nat) : Bool := okS S i || (match i with
  | 0 => true
  | j + 1 => match L[j]? with
    | some (some (.long _)) => false
    | _ => true)
def zStoreI (S : List Nat) (i n pc : Nat) (L : LV) (st : List Value) (σ : HP) : SR := match st with
  | .int x :: r => if i < L.length ∧ okD S L i = true then go (pc + n) (L.set i (some (.int x))) r σ else none
  | _ => none
def zStoreA (S : List Nat) (i n pc : Nat) (L : LV) (st : List Value) (σ : HP) : SR := match st with
  | .ref x :: r => if i < L.length ∧ okD S L i = true then go (pc + n) (L.set i (some (.ref x))) r σ else none
  | .null :: r => if i < L.length ∧ okD S L i = true then go (pc + n) (L.set i (some .null)) r σ else none
  | _ => none
def zStoreL (S : List Nat) (i n pc : Nat) (L : LV) (st : List Value) (σ : HP) : SR := match st with
  | .long x :: r => if i + 1 < L.length ∧ okD S L i = true ∧ S.contains i = true then go (pc + n) ((L.set i (some (.long x))).set (i + 1) none) r σ else none
  | _ => none
def zInc (S : List Nat) (i : Nat) (k : Int) (pc : Nat) (L : LV) (st : List Value) (σ : HP) : SR := match ld L i with
  | some (.int x) => if okD S L i = true then go (pc + 3) (L.set i (some (.int (x + Int32.ofInt k)))) st σ else none
  | _ => none
def zBin (f : Int32 → Int32 → Int32) (pc : Nat) (L : LV) (st : List Value) (σ : HP) : SR := match st with
  | .int y :: .int x :: r => go (pc + 1) L (.int (f x y) :: r) σ
  | _ => none
def zDiv (f : Int32 → Int32 → Int32) (pc : Nat) (L : LV) (st : List Value) (σ : HP) : SR := match st with
  | .int y :: .int x :: r => if y = 0 then none else go (pc + 1) L (.int (f x y) :: r) σ
  | _ => none
def zUn (f : Int32 → Int32) (pc : Nat) (L : LV) (st : List Value) (σ : HP) : SR := match st with
  | .int x :: r => go (pc + 1) L (.int (f x) :: r) σ
  | _ => none
def zBinL (f : Int64 → Int64 → Int64) (pc : Nat) (L : LV) (st : List Value) (σ : HP) : SR := match st with
  | .long y :: .long x :: r => go (pc + 1) L (.long (f x y) :: r) σ
  | _ => none
def zDivL (f : Int64 → Int64 → Int64) (pc : Nat) (L : LV) (st : List Value) (σ : HP) : SR := match st with
  | .long y :: .long x :: r => if y = 0 then none else go (pc + 1) L (.long (f x y) :: r) σ
  | _ => none
def zShlL (pc : Nat) (L : LV) (st : List Value) (σ : HP) : SR := match st with
  | .int y :: .long x :: r => go (pc + 1) L (.long (x <<< (y.toInt64 &&& 63)) :: r) σ
  | _ => none
def zI2l (pc : Nat) (L : LV) (st : List Value) (σ : HP) : SR := match st with
  | .int x :: r => go (pc + 1) L (.long x.toInt64 :: r) σ
  | _ => none
def zLcmp (pc : Nat) (L : LV) (st : List Value) (σ : HP) : SR := match st with
  | .long y :: .long x :: r => go (pc + 1) L (.int (lg_cmp x y) :: r) σ
  | _ => none
def zDup (pc : Nat) (L : LV) (st : List Value) (σ : HP) : SR := match st with
  | .int x :: r => go (pc + 1) L (.int x :: .int x :: r) σ
  | .ref x :: r => go (pc + 1) L (.ref x :: .ref x :: r) σ
  | _ => none
def zDup2 (pc : Nat) (L : LV) (st : List Value) (σ : HP) : SR := match st with
  | .int x :: .ref y :: r => go (pc + 1) L (.int x :: .ref y :: .int x :: .ref y :: r) σ
  | _ => none
def zPop (pc : Nat) (L : LV) (st : List Value) (σ : HP) : SR := match st with
  | .int _ :: r => go (pc + 1) L r σ
  | .ref _ :: r => go (pc + 1) L r σ
  | _ => none
def zCmp (f : Int32 → Int32 → Bool) (off : Int) (pc : Nat) (L : LV) (st : List Value) (σ : HP) : SR := match st with
  | .int y :: .int x :: r => br (f x y) pc off L r σ
  | _ => none
def zIf (f : Int32 → Bool) (off : Int) (pc : Nat) (L : LV) (st : List Value) (σ : HP) : SR := match st with
  | .int x :: r => br (f x) pc off L r σ
  | _ => none
def zIfnull (off : Int) (pc : Nat) (L : LV) (st : List Value) (σ : HP) : SR := match st with
  | .ref _ :: r => go (pc + 3) L r σ
  | .null :: r => jmp pc off L r σ
  | _ => none
def zTable (d lo hi : Int) (offs : Array Int) (pc : Nat) (L : LV) (st : List Value) (σ : HP) : SR := match st with
  | .int x :: r => if x.toInt < lo ∨ hi < x.toInt then jmp pc d L r σ else match offs[(x.toInt - lo).toNat]? with
    | some off => jmp pc off L r σ
    | none => none
  | _ => none
def zLook (d : Int) (ps : Array (Int × Int)) (pc : Nat) (L : LV) (st : List Value) (σ : HP) : SR := match st with
  | .int x :: r => if (ps.toList.zip (ps.toList.drop 1)).all (fun (a, next) => a.1 < next.1) = true then jmp pc (Op.lookupswitch.offset ps.toList d x.toInt) L r σ else none
  | _ => none
def zGet (o idx pc : Nat) (L : LV) (st : List Value) (σ : HP) : SR := match st with
  | .ref a :: r => match fl o idx with
    | some (ci, k) => if a % 64 = ci then
        (if zft ci k = 0 then go (pc + 3) L (.int (gI σ a k) :: r) σ else go (pc + 3) L (rv (gR σ a k) :: r) σ) else none
    | none => none
  | _ => none
def zPut (m : MM) (idx pc : Nat) (L : LV) (st : List Value) (σ : HP) : SR := match fl (zo m) idx with
  | none => none
  | some (ci, k) => if zfin ci k = true ∧ ¬ (zi m = true ∧ zo m = ci) then none else match st with
    | .int x :: .ref a :: r => if a % 64 = ci ∧ zft ci k = 0 then go (pc + 3) L r (wI σ a k x) else none
    | .ref b :: .ref a :: r => if a % 64 = ci ∧ zft ci k ≠ 0 then go (pc + 3) L r (wR σ a k (some b)) else none
    | .null :: .ref a :: r => if a % 64 = ci ∧ zft ci k ≠ 0 then go (pc + 3) L r (wR σ a k none) else none
    | _ => none
def zArr (e pc n : Nat) (L : LV) (st : List Value) (σ : HP) : SR := match st with
  | .int x :: r => if x < 0 then none else match arrK e x.toNatClampNeg with
    | some k => go (pc + n) L (.ref (k + 64 * hN σ) :: r) (hA σ k (alen k))
    | none => none
  | _ => none
def zAlen (pc : Nat) (L : LV) (st : List Value) (σ : HP) : SR := match st with
  | .ref a :: r => if a % 64 = 18 then go (pc + 1) L (.int (Int32.ofNat (hL σ)) :: r) σ
    else if aty (a % 64) ≠ 0 then go (pc + 1) L (.int (Int32.ofNat (alen (a % 64))) :: r) σ else none
  | _ => none
def zIald (pc : Nat) (L : LV) (st : List Value) (σ : HP) : SR := match st with
  | .int i :: .ref a :: r => if a = 18 then (if inR i (hL σ) = true then go (pc + 1) L (.int (gI σ 18 i.toNatClampNeg) :: r) σ else none)
    else if aty (a % 64) = 1 ∧ inR i (alen (a % 64)) = true then go (pc + 1) L (.int (gI σ a i.toNatClampNeg) :: r) σ else none
  | _ => none
def zIast (pc : Nat) (L : LV) (st : List Value) (σ : HP) : SR := match st with
  | .int x :: .int i :: .ref a :: r => if aty (a % 64) = 1 ∧ inR i (alen (a % 64)) = true then go (pc + 1) L r (wI σ a i.toNatClampNeg x) else none
  | _ => none
def zBald (pc : Nat) (L : LV) (st : List Value) (σ : HP) : SR := match st with
  | .int i :: .ref a :: r => if aty (a % 64) = 3 ∧ inR i (alen (a % 64)) = true then go (pc + 1) L (.int (gI σ a i.toNatClampNeg) :: r) σ else none
  | _ => none
def zBast (pc : Nat) (L : LV) (st : List Value) (σ : HP) : SR := match st with
  | .int x :: .int i :: .ref a :: r => if aty (a % 64) = 3 ∧ inR i (alen (a % 64)) = true then go (pc + 1) L r (wI σ a i.toNatClampNeg x.toInt8.toInt32) else none
  | _ => none
def zLald (pc : Nat) (L : LV) (st : List Value) (σ : HP) : SR := match st with
  | .int i :: .ref a :: r => if aty (a % 64) = 2 ∧ inR i (alen (a % 64)) = true then go (pc + 1) L (.long (gJ σ a i.toNatClampNeg) :: r) σ else none
  | _ => none
def zLast (pc : Nat) (L : LV) (st : List Value) (σ : HP) : SR := match st with
  | .long x :: .int i :: .ref a :: r => if aty (a % 64) = 2 ∧ inR i (alen (a % 64)) = true then go (pc + 1) L r (wJ σ a i.toNatClampNeg x) else none
  | _ => none
def zAald (pc : Nat) (L : LV) (st : List Value) (σ : HP) : SR := match st with
  | .int i :: .ref a :: r => if (aty (a % 64) = 4 ∨ aty (a % 64) = 5) ∧ inR i (alen (a % 64)) = true then go (pc + 1) L (rv (gR σ a i.toNatClampNeg) :: r) σ else none
  | _ => none
def zAast (pc : Nat) (L : LV) (st : List Value) (σ : HP) : SR := match st with
  | .ref b :: .int i :: .ref a :: r => if ((aty (a % 64) = 4 ∧ b % 64 = 1) ∨ (aty (a % 64) = 5 ∧ b % 64 = 3)) ∧ inR i (alen (a % 64)) = true then go (pc + 1) L r (wR σ a i.toNatClampNeg (some b)) else none
  | .null :: .int i :: .ref a :: r => if (aty (a % 64) = 4 ∨ aty (a % 64) = 5) ∧ inR i (alen (a % 64)) = true then go (pc + 1) L r (wR σ a i.toNatClampNeg none) else none
  | _ => none
/-- new: a thing of this system, or the beginning of 'throw new E("..")' -/
def zNew (d : Nat) (m : MM) (idx pc : Nat) (L : LV) (st : List Value) (σ : HP) : SR := match kl (zo m) idx with
  | some ci => go (pc + 3) L (.ref (ci + 64 * hN σ) :: st) (hA σ ci (zN ci))
  | none => match xl (zo m) idx with
    | some (x, is, ic) => if 20 ≤ d ∧ st = [] ∧ zh m = [] ∧ decode (zb m) (pc + 3) = .ok (.dup, 1) ∧ decode (zb m) (pc + 4) = .ok (.ldc_w is, 3) ∧ decode (zb m) (pc + 7) = .ok (.invokespecial ic, 3) ∧ decode (zb m) (pc + 10) = .ok (.athrow, 1)
        then some (.inl (.inr x, hA σ 63 6)) else none
    | none => none
def pv (v : Option Value) (st : List Value) : List Value := match v with
  | some w => w :: st
  | none => st
/-- who catches x, thrown behind the call at pc: the place behind the handler's own astore, and the slot that it takes -/
def hnd (m : MM) (pc x : Nat) : Option (Nat × Nat) := if (zh m).all (fun q => (xk (zo m) q.2.2.2).isSome) = false then none else match (zh m).find? (fun q => decide (q.1 ≤ pc ∧ pc < q.2.1 ∧ xk (zo m) q.2.2.2 = some x)) with
  | some q => match decode (zb m) q.2.2.1 with
    | .ok (.astore_n k, 1) => some (q.2.2.1 + 1, k)
    | .ok (.astore k, 2) => some (q.2.2.1 + 2, k)
    | _ => none
  | none => none
def zBack (m : MM) (pc : Nat) (L : LV) (rest : List Value) (o : Option Res) : SR := match o with
  | none => none
  | some (.inl v, σ') => go (pc + 3) L (pv v rest) σ'
  | some (.inr x, σ') => if zh m = [] then some (.inl (.inr x, σ')) else match hnd m pc x with
    | some (q, k) => if k < L.length ∧ okS (zs m) k = true then go q (L.set k none) [] σ' else none
    | none => none
def zCall (C : CF) (m m' : MM) (pc : Nat) (L : LV) (st : List Value) (σ : HP) : SR :=
  if zn m' ≤ st.length ∧ cW (st.drop (zn m')) ≤ 8 then zBack m pc L (st.drop (zn m')) (C m' (st.take (zn m')).reverse σ) else none
/-- a call that must not throw -/
def zCallN (C : CF) (m' : MM) (pc : Nat) (L : LV) (st : List Value) (σ : HP) : SR :=
  if zn m' ≤ st.length ∧ cW (st.drop (zn m')) ≤ 8 then (match C m' (st.take (zn m')).reverse σ with
    | some (.inl v, σ') => go (pc + 3) L (pv v (st.drop (zn m'))) σ'
    | _ => none) else none
def zVirt (C : CF) (d : Nat) (m : MM) (idx pc : Nat) (L : LV) (st : List Value) (σ : HP) : SR := match ml (zo m) idx with
  | some (1, m') => match (st.take (zn m')).reverse with
    | .ref a :: _ => if a % 64 = zo m' then zCall C m m' pc L st σ else none
    | _ => none
  | some (9, _) => match st with
    | .ref a :: r => if 4 ≤ d ∧ a % 64 = 16 ∧ a / 64 < 27 ∧ cW r ≤ 8 then go (pc + 3) L (.int (Int32.ofNat (slen (a / 64))) :: r) σ else none
    | _ => none
  | some (10, _) => match st with
    | .int i :: .ref a :: r => if 4 ≤ d ∧ a % 64 = 16 ∧ a / 64 < 27 ∧ cW r ≤ 8 ∧ inR i (slen (a / 64)) = true then go (pc + 3) L (.int (sbyt (a / 64) i.toNatClampNeg) :: r) σ else none
    | _ => none
  | _ => none
def zSpec (C : CF) (d : Nat) (m : MM) (idx pc : Nat) (L : LV) (st : List Value) (σ : HP) : SR := match ml (zo m) idx with
  | some (2, m') => match (st.take (zn m')).reverse with
    | .ref a :: _ => if a % 64 = zo m' then zCallN C m' pc L st σ else none
    | _ => none
  | some (3, m') => match (st.take (zn m')).reverse with
    | .ref a :: _ => if a % 64 = zo m' then zCallN C m' pc L st σ else none
    | _ => none
  | some (7, _) => match st with
    | .ref a :: r => if a % 64 ≤ 12 ∧ cW r ≤ 8 then go (pc + 3) L r σ else none
    | _ => none
  | _ => none
def zStat (C : CF) (d : Nat) (m : MM) (idx pc : Nat) (L : LV) (st : List Value) (σ : HP) : SR := match ml (zo m) idx with
  | some (0, m') => zCallN C m' pc L st σ
  | some (4, m') => zCallN C m' pc L st σ
  | some (6, m') => zCallN C m' pc L st σ
  | some (8, _) => match st with
    | .int n :: .int q :: .ref b :: .int p :: .ref a :: r => if a ≠ b ∧ aty (a % 64) = 1 ∧ aty (b % 64) = 1 ∧ ¬ p < 0 ∧ ¬ q < 0 ∧ ¬ n < 0 ∧ p.toNatClampNeg + n.toNatClampNeg ≤ alen (a % 64) ∧ q.toNatClampNeg + n.toNatClampNeg ≤ alen (b % 64) ∧ cW r ≤ 8
        then go (pc + 3) L r (cI σ a p.toNatClampNeg b q.toNatClampNeg n.toNatClampNeg) else none
    | _ => none
  | some (11, _) => match st with
    | .int y :: .int x :: r => if cW r ≤ 8 then go (pc + 3) L (.int (if y < x then y else x) :: r) σ else none
    | _ => none
  | some (12, _) => match st with
    | .int y :: .int x :: r => if cW r ≤ 8 then go (pc + 3) L (.int (if x < y then y else x) :: r) σ else none
    | _ => none
  | some (13, _) => match st with
    | .int x :: r => if cW r ≤ 8 then go (pc + 3) L (.int (if 0 ≤ x then x else 0 - x) :: r) σ else none
    | _ => none
  | _ => none
def zLdc (o idx n pc : Nat) (L : LV) (st : List Value) (σ : HP) : SR := match il o idx with
  | some v => go (pc + n) L (.int v :: st) σ
  | none => match sl o idx with
    | some i => go (pc + n) L (.ref (16 + 64 * i) :: st) σ
    | none => none
def zLdc2 (o idx pc : Nat) (L : LV) (st : List Value) (σ : HP) : SR := match ll o idx with
  | some v => go (pc + 3) L (.long v :: st) σ
  | none => none
def zIret (m : MM) (st : List Value) (σ : HP) : SR := match st with
  | [.int v] => match zr m with
    | some ty => if narrow ty (.int v) = .int v then some (.inl (.inl (some (.int v)), σ)) else none
    | none => none
  | _ => none
def zLret (m : MM) (st : List Value) (σ : HP) : SR := match st with
  | [.long v] => if zr m = some .long then some (.inl (.inl (some (.long v)), σ)) else none
  | _ => none
def zVret (m : MM) (st : List Value) (σ : HP) : SR := match st with
  | [] => if zr m = none then some (.inl (.inl none, σ)) else none
  | _ => none
def gd (n k : Nat) (x : SR) : SR := if n = k then x else none
def stepI (C : CF) (d : Nat) (m : MM) (pc : Nat) (L : LV) (st : List Value) (σ : HP) (i : Instr) (n : Nat) : SR := match i with
  | .aload k => gd n 2 (zLoadA k 2 pc L st σ)
  | .aload_n k => gd n 1 (zLoadA k 1 pc L st σ)
  | .iload k => gd n 2 (zLoadI k 2 pc L st σ)
  | .iload_n k => gd n 1 (zLoadI k 1 pc L st σ)
  | .lload k => gd n 2 (zLoadL k 2 pc L st σ)
  | .lload_n k => gd n 1 (zLoadL k 1 pc L st σ)
  | .astore k => gd n 2 (zStoreA (zs m) k 2 pc L st σ)
  | .astore_n k => gd n 1 (zStoreA (zs m) k 1 pc L st σ)
  | .istore k => gd n 2 (zStoreI (zs m) k 2 pc L st σ)
  | .istore_n k => gd n 1 (zStoreI (zs m) k 1 pc L st σ)
  | .lstore k => gd n 2 (zStoreL (zs m) k 2 pc L st σ)
  | .lstore_n k => gd n 1 (zStoreL (zs m) k 1 pc L st σ)
  | .iinc k c => gd n 3 (zInc (zs m) k c pc L st σ)
  | .iconst k => gd n 1 (go (pc + 1) L (.int (Int32.ofInt k) :: st) σ)
  | .bipush k => gd n 2 (go (pc + 2) L (.int (Int8.ofInt k).toInt32 :: st) σ)
  | .sipush k => gd n 3 (go (pc + 3) L (.int (Int16.ofInt k).toInt32 :: st) σ)
  | .lconst k => gd n 1 (go (pc + 1) L (.long (Int64.ofNat (k : Nat)) :: st) σ)
  | .ldc k => gd n 2 (zLdc (zo m) k 2 pc L st σ)
  | .ldc_w k => gd n 3 (zLdc (zo m) k 3 pc L st σ)
  | .ldc2_w k => gd n 3 (zLdc2 (zo m) k pc L st σ)
  | .iadd => gd n 1 (zBin (fun x y => x + y) pc L st σ)
  | .isub => gd n 1 (zBin (fun x y => x - y) pc L st σ)
  | .imul => gd n 1 (zBin (fun x y => x * y) pc L st σ)
  | .iand => gd n 1 (zBin (fun x y => x &&& y) pc L st σ)
  | .ior => gd n 1 (zBin (fun x y => x ||| y) pc L st σ)
  | .ixor => gd n 1 (zBin (fun x y => x ^^^ y) pc L st σ)
  | .ishl => gd n 1 (zBin (fun x y => x <<< (y &&& 31)) pc L st σ)
  | .ishr => gd n 1 (zBin (fun x y => x >>> (y &&& 31)) pc L st σ)
  | .iushr => gd n 1 (zBin (fun x y => (x.toUInt32 >>> (y.toUInt32 &&& Int32.toUInt32 31)).toInt32) pc L st σ)
  | .idiv => gd n 1 (zDiv (fun x y => x / y) pc L st σ)
  | .irem => gd n 1 (zDiv (fun x y => x - x / y * y) pc L st σ)
  | .ineg => gd n 1 (zUn (fun x => -x) pc L st σ)
  | .i2b => gd n 1 (zUn (fun x => x.toInt8.toInt32) pc L st σ)
  | .i2c => gd n 1 (zUn (fun x => (x.toUInt32 % 65536).toInt32) pc L st σ)
  | .ladd => gd n 1 (zBinL (fun x y => x + y) pc L st σ)
  | .lmul => gd n 1 (zBinL (fun x y => x * y) pc L st σ)
  | .ldiv => gd n 1 (zDivL (fun x y => x / y) pc L st σ)
  | .lrem => gd n 1 (zDivL (fun x y => x - x / y * y) pc L st σ)
  | .lshl => gd n 1 (zShlL pc L st σ)
  | .i2l => gd n 1 (zI2l pc L st σ)
  | .lcmp => gd n 1 (zLcmp pc L st σ)
  | .dup => gd n 1 (zDup pc L st σ)
  | .dup2 => gd n 1 (zDup2 pc L st σ)
  | .pop => gd n 1 (zPop pc L st σ)
  | .if_icmp .eq k => gd n 3 (zCmp (fun x y => decide (x = y)) k pc L st σ)
  | .if_icmp .ne k => gd n 3 (zCmp (fun x y => decide (¬ x = y)) k pc L st σ)
  | .if_icmp .lt k => gd n 3 (zCmp (fun x y => decide (x < y)) k pc L st σ)
  | .if_icmp .ge k => gd n 3 (zCmp (fun x y => decide (y ≤ x)) k pc L st σ)
  | .if_icmp .gt k => gd n 3 (zCmp (fun x y => decide (y < x)) k pc L st σ)
  | .if_icmp .le k => gd n 3 (zCmp (fun x y => decide (x ≤ y)) k pc L st σ)
  | .ifCond .eq k => gd n 3 (zIf (fun x => decide (x = 0)) k pc L st σ)
  | .ifCond .ne k => gd n 3 (zIf (fun x => decide (¬ x = 0)) k pc L st σ)
  | .ifCond .lt k => gd n 3 (zIf (fun x => decide (x < 0)) k pc L st σ)
  | .ifCond .ge k => gd n 3 (zIf (fun x => decide (0 ≤ x)) k pc L st σ)
  | .ifCond .gt k => gd n 3 (zIf (fun x => decide (0 < x)) k pc L st σ)
  | .ifCond .le k => gd n 3 (zIf (fun x => decide (x ≤ 0)) k pc L st σ)
  | .ifnull k => gd n 3 (zIfnull k pc L st σ)
  | .goto k => gd n 3 (jmp pc k L st σ)
  | .tableswitch k lo hi offs => zTable k lo hi offs pc L st σ
  | .lookupswitch k ps => zLook k ps pc L st σ
  | .getfield k => gd n 3 (zGet (zo m) k pc L st σ)
  | .putfield k => gd n 3 (zPut m k pc L st σ)
  | .new k => gd n 3 (zNew d m k pc L st σ)
  | .newarray .int => gd n 2 (zArr 1 pc 2 L st σ)
  | .newarray .long => gd n 2 (zArr 2 pc 2 L st σ)
  | .newarray .byte => gd n 2 (zArr 3 pc 2 L st σ)
  | .anewarray k => gd n 3 (match al (zo m) k with
    | some e => zArr e pc 3 L st σ
    | none => none)
  | .arraylength => gd n 1 (zAlen pc L st σ)
  | .iaload => gd n 1 (zIald pc L st σ)
  | .iastore => gd n 1 (zIast pc L st σ)
  | .baload => gd n 1 (zBald pc L st σ)
  | .bastore => gd n 1 (zBast pc L st σ)
  | .laload => gd n 1 (zLald pc L st σ)
  | .lastore => gd n 1 (zLast pc L st σ)
  | .aaload => gd n 1 (zAald pc L st σ)
  | .aastore => gd n 1 (zAast pc L st σ)
  | .invokevirtual k => gd n 3 (zVirt C d m k pc L st σ)
  | .invokespecial k => gd n 3 (zSpec C d m k pc L st σ)
  | .invokestatic k => gd n 3 (zStat C d m k pc L st σ)
  | .ireturn => gd n 1 (zIret m st σ)
  | .lreturn => gd n 1 (zLret m st σ)
  | .return_ => gd n 1 (zVret m st σ)
  | _ => none
def step1 (C : CF) (d : Nat) (m : MM) (c : Cfg) : SR := match decode (zb m) c.1 with
  | .ok (i, n) => stepI C d m c.1 c.2.1 c.2.2.1 c.2.2.2 i n
  | .error _ => none
def runN (C : CF) (d : Nat) (m : MM) : Nat → Cfg → Option Res
  | 0, _ => none
  | f + 1, c => match step1 C d m c with
    | none => none
    | some (.inl r) => some r
    | some (.inr c') => runN C d m f c'
theorem runN_one {C : CF} {d : Nat} {m : MM} : ∀ (f : Nat) (c : Cfg) (r : Res), runN C d m f c = some r → runN C d m (f + 1) c = some r := by
  intro f
  induction f with
  | zero => intro c r h; cases h
  | succ f ih =>
    intro c r h
    unfold runN at h ⊢
    cases hs : step1 C d m c with
    | none => rw [hs] at h; cases h
    | some q =>
      rw [hs] at h
      cases q with
      | inl r' => exact h
      | inr c' => exact ih c' r h
theorem runN_le {C : CF} {d : Nat} {m : MM} {f g : Nat} {c : Cfg} {r : Res} (hg : f ≤ g) (h : runN C d m f c = some r) : runN C d m g c = some r := by
  induction hg with
  | refl => exact h
  | step _ ih => exact runN_one _ _ _ ih
theorem runN_det {C : CF} {d : Nat} {m : MM} {f g : Nat} {c : Cfg} {r r' : Res} (h : runN C d m f c = some r) (h' : runN C d m g c = some r') : r = r' := by
  have h1 := runN_le (Nat.le_max_left f g) h
  have h2 := runN_le (Nat.le_max_right f g) h'
  exact Option.some.inj (h1.symm.trans h2)
noncomputable def runF (C : CF) (d : Nat) (m : MM) (c : Cfg) : Option Res := by
  classical
  exact if h : ∃ r : Res, ∃ f : Nat, runN C d m f c = some r then some h.choose else none
theorem runF_some {C : CF} {d : Nat} {m : MM} {c : Cfg} {r : Res} : runF C d m c = some r ↔ ∃ f, runN C d m f c = some r := by
  unfold runF
  by_cases h : ∃ r : Res, ∃ f : Nat, runN C d m f c = some r
  · rw [dif_pos h]
    obtain ⟨f0, hf0⟩ := h.choose_spec
    constructor
    · intro e
      have e1 := Option.some.inj e
      exact ⟨f0, by rw [← e1]; exact hf0⟩
    · rintro ⟨f, hf⟩
      rw [runN_det hf0 hf]
  · rw [dif_neg h]
    constructor
    · intro e; cases e
    · rintro ⟨f, hf⟩
      exact absurd ⟨r, f, hf⟩ h
theorem opt_ext {α : Type} {x y : Option α} (h : ∀ r, x = some r ↔ y = some r) : x = y := by
  cases hx : x with
  | none =>
    cases hy : y with
    | none => rfl
    | some b => have := (h b).mpr hy; rw [hx] at this; cases this
  | some a => exact ((h a).mp hx).symm
theorem runF_go {C : CF} {d : Nat} {m : MM} {c c' : Cfg} (h : step1 C d m c = some (.inr c')) : runF C d m c = runF C d m c' := by
  refine opt_ext fun r => ?_
  rw [runF_some, runF_some]
  constructor
  · rintro ⟨f, hf⟩
    cases f with
    | zero => cases hf
    | succ f => unfold runN at hf; rw [h] at hf; exact ⟨f, hf⟩
  · rintro ⟨f, hf⟩
    refine ⟨f + 1, ?_⟩
    unfold runN
    rw [h]
    exact hf
theorem runF_end {C : CF} {d : Nat} {m : MM} {c : Cfg} {r : Res} (h : step1 C d m c = some (.inl r)) : runF C d m c = some r := by
  rw [runF_some]
  refine ⟨1, ?_⟩
  unfold runN
  rw [h]
theorem runF_none {C : CF} {d : Nat} {m : MM} {c : Cfg} (h : step1 C d m c = none) : runF C d m c = none := by
  refine opt_ext fun r => ?_
  rw [runF_some]
  constructor
  · rintro ⟨f, hf⟩
    cases f with
    | zero => cases hf
    | succ f => unfold runN at hf; rw [h] at hf; cases hf
  · intro e; cases e
def entA : List Value → LV
  | [] => []
  | .long x :: r => some (.long x) :: none :: entA r
  | .int x :: r => some (.int x) :: entA r
  | .ref x :: r => some (.ref x) :: entA r
  | .null :: r => some .null :: entA r
  | _ :: r => none :: entA r
def longsOK (S : List Nat) : Nat → LV → Bool
  | _, [] => true
  | i, some (.long _) :: r => S.contains i && longsOK S (i + 1) r
  | i, _ :: r => longsOK S (i + 1) r
def ent (n : Nat) (a : List Value) : LV := entA a ++ List.replicate (n - (entA a).length) none
def entOK (m : MM) (a : List Value) : Bool := a.length == zn m && decide ((entA a).length ≤ zl m) && longsOK (zs m) 0 (entA a)
noncomputable def callF : Nat → CF
  | 0 => fun _ _ _ => none
  | d + 1 => fun m a σ => if entOK m a = true then runF (callF d) d m (0, ent (zl m) a, [], σ) else none
