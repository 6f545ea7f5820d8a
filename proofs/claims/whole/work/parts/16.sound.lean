/-! where the small machine ends, the real one does -/
theorem no_zLoadA {i : Nat} {n : Nat} {pc : Nat} {L : LV} {st : List Value} {σ : HP} {r : Res} (h : zLoadA i n pc L st σ = some (.inl r)) : False := by
  unfold zLoadA at h
  try unfold jmp at h
  try unfold br at h
  try unfold zCallN at h
  repeat' split at h
  all_goals first
    | (cases h; done)
    | (unfold jmp at h; split at h <;> cases h)
    | (unfold br at h; repeat' split at h; all_goals (cases h))
    | (unfold zCallN at h; repeat' split at h; all_goals (cases h))
theorem no_zLoadI {i : Nat} {n : Nat} {pc : Nat} {L : LV} {st : List Value} {σ : HP} {r : Res} (h : zLoadI i n pc L st σ = some (.inl r)) : False := by
  unfold zLoadI at h
  try unfold jmp at h
  try unfold br at h
  try unfold zCallN at h
  repeat' split at h
  all_goals first
    | (cases h; done)
    | (unfold jmp at h; split at h <;> cases h)
    | (unfold br at h; repeat' split at h; all_goals (cases h))
    | (unfold zCallN at h; repeat' split at h; all_goals (cases h))
theorem no_zLoadL {i : Nat} {n : Nat} {pc : Nat} {L : LV} {st : List Value} {σ : HP} {r : Res} (h : zLoadL i n pc L st σ = some (.inl r)) : False := by
  unfold zLoadL at h
  try unfold jmp at h
  try unfold br at h
  try unfold zCallN at h
  repeat' split at h
  all_goals first
    | (cases h; done)
    | (unfold jmp at h; split at h <;> cases h)
    | (unfold br at h; repeat' split at h; all_goals (cases h))
    | (unfold zCallN at h; repeat' split at h; all_goals (cases h))
theorem no_zStoreA {S : List Nat} {i : Nat} {n : Nat} {pc : Nat} {L : LV} {st : List Value} {σ : HP} {r : Res} (h : zStoreA S i n pc L st σ = some (.inl r)) : False := by
  unfold zStoreA at h
  try unfold jmp at h
  try unfold br at h
  try unfold zCallN at h
  repeat' split at h
  all_goals first
    | (cases h; done)
    | (unfold jmp at h; split at h <;> cases h)
    | (unfold br at h; repeat' split at h; all_goals (cases h))
    | (unfold zCallN at h; repeat' split at h; all_goals (cases h))
theorem no_zStoreI {S : List Nat} {i : Nat} {n : Nat} {pc : Nat} {L : LV} {st : List Value} {σ : HP} {r : Res} (h : zStoreI S i n pc L st σ = some (.inl r)) : False := by
  unfold zStoreI at h
  try unfold jmp at h
  try unfold br at h
  try unfold zCallN at h
  repeat' split at h
  all_goals first
    | (cases h; done)
    | (unfold jmp at h; split at h <;> cases h)
    | (unfold br at h; repeat' split at h; all_goals (cases h))
    | (unfold zCallN at h; repeat' split at h; all_goals (cases h))
theorem no_zStoreL {S : List Nat} {i : Nat} {n : Nat} {pc : Nat} {L : LV} {st : List Value} {σ : HP} {r : Res} (h : zStoreL S i n pc L st σ = some (.inl r)) : False := by
  unfold zStoreL at h
  try unfold jmp at h
  try unfold br at h
  try unfold zCallN at h
  repeat' split at h
  all_goals first
    | (cases h; done)
    | (unfold jmp at h; split at h <;> cases h)
    | (unfold br at h; repeat' split at h; all_goals (cases h))
    | (unfold zCallN at h; repeat' split at h; all_goals (cases h))
theorem no_zInc {S : List Nat} {i : Nat} {k : Int} {pc : Nat} {L : LV} {st : List Value} {σ : HP} {r : Res} (h : zInc S i k pc L st σ = some (.inl r)) : False := by
  unfold zInc at h
  try unfold jmp at h
  try unfold br at h
  try unfold zCallN at h
  repeat' split at h
  all_goals first
    | (cases h; done)
    | (unfold jmp at h; split at h <;> cases h)
    | (unfold br at h; repeat' split at h; all_goals (cases h))
    | (unfold zCallN at h; repeat' split at h; all_goals (cases h))
theorem no_zBin {f : Int32 → Int32 → Int32} {pc : Nat} {L : LV} {st : List Value} {σ : HP} {r : Res} (h : zBin f pc L st σ = some (.inl r)) : False := by
  unfold zBin at h
  try unfold jmp at h
  try unfold br at h
  try unfold zCallN at h
  repeat' split at h
  all_goals first
    | (cases h; done)
    | (unfold jmp at h; split at h <;> cases h)
    | (unfold br at h; repeat' split at h; all_goals (cases h))
    | (unfold zCallN at h; repeat' split at h; all_goals (cases h))
theorem no_zDiv {f : Int32 → Int32 → Int32} {pc : Nat} {L : LV} {st : List Value} {σ : HP} {r : Res} (h : zDiv f pc L st σ = some (.inl r)) : False := by
  unfold zDiv at h
  try unfold jmp at h
  try unfold br at h
  try unfold zCallN at h
  repeat' split at h
  all_goals first
    | (cases h; done)
    | (unfold jmp at h; split at h <;> cases h)
    | (unfold br at h; repeat' split at h; all_goals (cases h))
    | (unfold zCallN at h; repeat' split at h; all_goals (cases h))
theorem no_zUn {f1 : Int32 → Int32} {pc : Nat} {L : LV} {st : List Value} {σ : HP} {r : Res} (h : zUn f1 pc L st σ = some (.inl r)) : False := by
  unfold zUn at h
  try unfold jmp at h
  try unfold br at h
  try unfold zCallN at h
  repeat' split at h
  all_goals first
    | (cases h; done)
    | (unfold jmp at h; split at h <;> cases h)
    | (unfold br at h; repeat' split at h; all_goals (cases h))
    | (unfold zCallN at h; repeat' split at h; all_goals (cases h))
theorem no_zBinL {g : Int64 → Int64 → Int64} {pc : Nat} {L : LV} {st : List Value} {σ : HP} {r : Res} (h : zBinL g pc L st σ = some (.inl r)) : False := by
  unfold zBinL at h
  try unfold jmp at h
  try unfold br at h
  try unfold zCallN at h
  repeat' split at h
  all_goals first
    | (cases h; done)
    | (unfold jmp at h; split at h <;> cases h)
    | (unfold br at h; repeat' split at h; all_goals (cases h))
    | (unfold zCallN at h; repeat' split at h; all_goals (cases h))
theorem no_zDivL {g : Int64 → Int64 → Int64} {pc : Nat} {L : LV} {st : List Value} {σ : HP} {r : Res} (h : zDivL g pc L st σ = some (.inl r)) : False := by
  unfold zDivL at h
  try unfold jmp at h
  try unfold br at h
  try unfold zCallN at h
  repeat' split at h
  all_goals first
    | (cases h; done)
    | (unfold jmp at h; split at h <;> cases h)
    | (unfold br at h; repeat' split at h; all_goals (cases h))
    | (unfold zCallN at h; repeat' split at h; all_goals (cases h))
theorem no_zShlL {pc : Nat} {L : LV} {st : List Value} {σ : HP} {r : Res} (h : zShlL pc L st σ = some (.inl r)) : False := by
  unfold zShlL at h
  try unfold jmp at h
  try unfold br at h
  try unfold zCallN at h
  repeat' split at h
  all_goals first
    | (cases h; done)
    | (unfold jmp at h; split at h <;> cases h)
    | (unfold br at h; repeat' split at h; all_goals (cases h))
    | (unfold zCallN at h; repeat' split at h; all_goals (cases h))
theorem no_zI2l {pc : Nat} {L : LV} {st : List Value} {σ : HP} {r : Res} (h : zI2l pc L st σ = some (.inl r)) : False := by
  unfold zI2l at h
  try unfold jmp at h
  try unfold br at h
  try unfold zCallN at h
  repeat' split at h
  all_goals first
    | (cases h; done)
    | (unfold jmp at h; split at h <;> cases h)
    | (unfold br at h; repeat' split at h; all_goals (cases h))
    | (unfold zCallN at h; repeat' split at h; all_goals (cases h))
theorem no_zLcmp {pc : Nat} {L : LV} {st : List Value} {σ : HP} {r : Res} (h : zLcmp pc L st σ = some (.inl r)) : False := by
  unfold zLcmp at h
  try unfold jmp at h
  try unfold br at h
  try unfold zCallN at h
  repeat' split at h
  all_goals first
    | (cases h; done)
    | (unfold jmp at h; split at h <;> cases h)
    | (unfold br at h; repeat' split at h; all_goals (cases h))
    | (unfold zCallN at h; repeat' split at h; all_goals (cases h))
theorem no_zDup {pc : Nat} {L : LV} {st : List Value} {σ : HP} {r : Res} (h : zDup pc L st σ = some (.inl r)) : False := by
  unfold zDup at h
  try unfold jmp at h
  try unfold br at h
  try unfold zCallN at h
  repeat' split at h
  all_goals first
    | (cases h; done)
    | (unfold jmp at h; split at h <;> cases h)
    | (unfold br at h; repeat' split at h; all_goals (cases h))
    | (unfold zCallN at h; repeat' split at h; all_goals (cases h))
theorem no_zDup2 {pc : Nat} {L : LV} {st : List Value} {σ : HP} {r : Res} (h : zDup2 pc L st σ = some (.inl r)) : False := by
  unfold zDup2 at h
  try unfold jmp at h
  try unfold br at h
  try unfold zCallN at h
  repeat' split at h
  all_goals first
    | (cases h; done)
    | (unfold jmp at h; split at h <;> cases h)
    | (unfold br at h; repeat' split at h; all_goals (cases h))
    | (unfold zCallN at h; repeat' split at h; all_goals (cases h))
theorem no_zPop {pc : Nat} {L : LV} {st : List Value} {σ : HP} {r : Res} (h : zPop pc L st σ = some (.inl r)) : False := by
  unfold zPop at h
  try unfold jmp at h
  try unfold br at h
  try unfold zCallN at h
  repeat' split at h
  all_goals first
    | (cases h; done)
    | (unfold jmp at h; split at h <;> cases h)
    | (unfold br at h; repeat' split at h; all_goals (cases h))
    | (unfold zCallN at h; repeat' split at h; all_goals (cases h))
theorem no_zCmp {fb : Int32 → Int32 → Bool} {k : Int} {pc : Nat} {L : LV} {st : List Value} {σ : HP} {r : Res} (h : zCmp fb k pc L st σ = some (.inl r)) : False := by
  unfold zCmp at h
  try unfold jmp at h
  try unfold br at h
  try unfold zCallN at h
  repeat' split at h
  all_goals first
    | (cases h; done)
    | (unfold jmp at h; split at h <;> cases h)
    | (unfold br at h; repeat' split at h; all_goals (cases h))
    | (unfold zCallN at h; repeat' split at h; all_goals (cases h))
theorem no_zIf {f1b : Int32 → Bool} {k : Int} {pc : Nat} {L : LV} {st : List Value} {σ : HP} {r : Res} (h : zIf f1b k pc L st σ = some (.inl r)) : False := by
  unfold zIf at h
  try unfold jmp at h
  try unfold br at h
  try unfold zCallN at h
  repeat' split at h
  all_goals first
    | (cases h; done)
    | (unfold jmp at h; split at h <;> cases h)
    | (unfold br at h; repeat' split at h; all_goals (cases h))
    | (unfold zCallN at h; repeat' split at h; all_goals (cases h))
theorem no_zIfnull {k : Int} {pc : Nat} {L : LV} {st : List Value} {σ : HP} {r : Res} (h : zIfnull k pc L st σ = some (.inl r)) : False := by
  unfold zIfnull at h
  try unfold jmp at h
  try unfold br at h
  try unfold zCallN at h
  repeat' split at h
  all_goals first
    | (cases h; done)
    | (unfold jmp at h; split at h <;> cases h)
    | (unfold br at h; repeat' split at h; all_goals (cases h))
    | (unfold zCallN at h; repeat' split at h; all_goals (cases h))
theorem no_zTable {k : Int} {k2 : Int} {k3 : Int} {offs : Array Int} {pc : Nat} {L : LV} {st : List Value} {σ : HP} {r : Res} (h : zTable k k2 k3 offs pc L st σ = some (.inl r)) : False := by
  unfold zTable at h
  try unfold jmp at h
  try unfold br at h
  try unfold zCallN at h
  repeat' split at h
  all_goals first
    | (cases h; done)
    | (unfold jmp at h; split at h <;> cases h)
    | (unfold br at h; repeat' split at h; all_goals (cases h))
    | (unfold zCallN at h; repeat' split at h; all_goals (cases h))
theorem no_zLook {k : Int} {ps : Array (Int × Int)} {pc : Nat} {L : LV} {st : List Value} {σ : HP} {r : Res} (h : zLook k ps pc L st σ = some (.inl r)) : False := by
  unfold zLook at h
  try unfold jmp at h
  try unfold br at h
  try unfold zCallN at h
  repeat' split at h
  all_goals first
    | (cases h; done)
    | (unfold jmp at h; split at h <;> cases h)
    | (unfold br at h; repeat' split at h; all_goals (cases h))
    | (unfold zCallN at h; repeat' split at h; all_goals (cases h))
theorem no_zGet {i : Nat} {n : Nat} {pc : Nat} {L : LV} {st : List Value} {σ : HP} {r : Res} (h : zGet i n pc L st σ = some (.inl r)) : False := by
  unfold zGet at h
  try unfold jmp at h
  try unfold br at h
  try unfold zCallN at h
  repeat' split at h
  all_goals first
    | (cases h; done)
    | (unfold jmp at h; split at h <;> cases h)
    | (unfold br at h; repeat' split at h; all_goals (cases h))
    | (unfold zCallN at h; repeat' split at h; all_goals (cases h))
theorem no_zPut {m : MM} {n : Nat} {pc : Nat} {L : LV} {st : List Value} {σ : HP} {r : Res} (h : zPut m n pc L st σ = some (.inl r)) : False := by
  unfold zPut at h
  try unfold jmp at h
  try unfold br at h
  try unfold zCallN at h
  repeat' split at h
  all_goals first
    | (cases h; done)
    | (unfold jmp at h; split at h <;> cases h)
    | (unfold br at h; repeat' split at h; all_goals (cases h))
    | (unfold zCallN at h; repeat' split at h; all_goals (cases h))
theorem no_zArr {i : Nat} {n : Nat} {pc : Nat} {L : LV} {st : List Value} {σ : HP} {r : Res} (h : zArr i n pc L st σ = some (.inl r)) : False := by
  unfold zArr at h
  try unfold jmp at h
  try unfold br at h
  try unfold zCallN at h
  repeat' split at h
  all_goals first
    | (cases h; done)
    | (unfold jmp at h; split at h <;> cases h)
    | (unfold br at h; repeat' split at h; all_goals (cases h))
    | (unfold zCallN at h; repeat' split at h; all_goals (cases h))
theorem no_zAlen {pc : Nat} {L : LV} {st : List Value} {σ : HP} {r : Res} (h : zAlen pc L st σ = some (.inl r)) : False := by
  unfold zAlen at h
  try unfold jmp at h
  try unfold br at h
  try unfold zCallN at h
  repeat' split at h
  all_goals first
    | (cases h; done)
    | (unfold jmp at h; split at h <;> cases h)
    | (unfold br at h; repeat' split at h; all_goals (cases h))
    | (unfold zCallN at h; repeat' split at h; all_goals (cases h))
theorem no_zIald {pc : Nat} {L : LV} {st : List Value} {σ : HP} {r : Res} (h : zIald pc L st σ = some (.inl r)) : False := by
  unfold zIald at h
  try unfold jmp at h
  try unfold br at h
  try unfold zCallN at h
  repeat' split at h
  all_goals first
    | (cases h; done)
    | (unfold jmp at h; split at h <;> cases h)
    | (unfold br at h; repeat' split at h; all_goals (cases h))
    | (unfold zCallN at h; repeat' split at h; all_goals (cases h))
theorem no_zIast {pc : Nat} {L : LV} {st : List Value} {σ : HP} {r : Res} (h : zIast pc L st σ = some (.inl r)) : False := by
  unfold zIast at h
  try unfold jmp at h
  try unfold br at h
  try unfold zCallN at h
  repeat' split at h
  all_goals first
    | (cases h; done)
    | (unfold jmp at h; split at h <;> cases h)
    | (unfold br at h; repeat' split at h; all_goals (cases h))
    | (unfold zCallN at h; repeat' split at h; all_goals (cases h))
theorem no_zBald {pc : Nat} {L : LV} {st : List Value} {σ : HP} {r : Res} (h : zBald pc L st σ = some (.inl r)) : False := by
  unfold zBald at h
  try unfold jmp at h
  try unfold br at h
  try unfold zCallN at h
  repeat' split at h
  all_goals first
    | (cases h; done)
    | (unfold jmp at h; split at h <;> cases h)
    | (unfold br at h; repeat' split at h; all_goals (cases h))
    | (unfold zCallN at h; repeat' split at h; all_goals (cases h))
theorem no_zBast {pc : Nat} {L : LV} {st : List Value} {σ : HP} {r : Res} (h : zBast pc L st σ = some (.inl r)) : False := by
  unfold zBast at h
  try unfold jmp at h
  try unfold br at h
  try unfold zCallN at h
  repeat' split at h
  all_goals first
    | (cases h; done)
    | (unfold jmp at h; split at h <;> cases h)
    | (unfold br at h; repeat' split at h; all_goals (cases h))
    | (unfold zCallN at h; repeat' split at h; all_goals (cases h))
theorem no_zLald {pc : Nat} {L : LV} {st : List Value} {σ : HP} {r : Res} (h : zLald pc L st σ = some (.inl r)) : False := by
  unfold zLald at h
  try unfold jmp at h
  try unfold br at h
  try unfold zCallN at h
  repeat' split at h
  all_goals first
    | (cases h; done)
    | (unfold jmp at h; split at h <;> cases h)
    | (unfold br at h; repeat' split at h; all_goals (cases h))
    | (unfold zCallN at h; repeat' split at h; all_goals (cases h))
theorem no_zLast {pc : Nat} {L : LV} {st : List Value} {σ : HP} {r : Res} (h : zLast pc L st σ = some (.inl r)) : False := by
  unfold zLast at h
  try unfold jmp at h
  try unfold br at h
  try unfold zCallN at h
  repeat' split at h
  all_goals first
    | (cases h; done)
    | (unfold jmp at h; split at h <;> cases h)
    | (unfold br at h; repeat' split at h; all_goals (cases h))
    | (unfold zCallN at h; repeat' split at h; all_goals (cases h))
theorem no_zAald {pc : Nat} {L : LV} {st : List Value} {σ : HP} {r : Res} (h : zAald pc L st σ = some (.inl r)) : False := by
  unfold zAald at h
  try unfold jmp at h
  try unfold br at h
  try unfold zCallN at h
  repeat' split at h
  all_goals first
    | (cases h; done)
    | (unfold jmp at h; split at h <;> cases h)
    | (unfold br at h; repeat' split at h; all_goals (cases h))
    | (unfold zCallN at h; repeat' split at h; all_goals (cases h))
theorem no_zAast {pc : Nat} {L : LV} {st : List Value} {σ : HP} {r : Res} (h : zAast pc L st σ = some (.inl r)) : False := by
  unfold zAast at h
  try unfold jmp at h
  try unfold br at h
  try unfold zCallN at h
  repeat' split at h
  all_goals first
    | (cases h; done)
    | (unfold jmp at h; split at h <;> cases h)
    | (unfold br at h; repeat' split at h; all_goals (cases h))
    | (unfold zCallN at h; repeat' split at h; all_goals (cases h))
theorem no_zLdc {i : Nat} {n : Nat} {n2 : Nat} {pc : Nat} {L : LV} {st : List Value} {σ : HP} {r : Res} (h : zLdc i n n2 pc L st σ = some (.inl r)) : False := by
  unfold zLdc at h
  try unfold jmp at h
  try unfold br at h
  try unfold zCallN at h
  repeat' split at h
  all_goals first
    | (cases h; done)
    | (unfold jmp at h; split at h <;> cases h)
    | (unfold br at h; repeat' split at h; all_goals (cases h))
    | (unfold zCallN at h; repeat' split at h; all_goals (cases h))
theorem no_zLdc2 {i : Nat} {n : Nat} {pc : Nat} {L : LV} {st : List Value} {σ : HP} {r : Res} (h : zLdc2 i n pc L st σ = some (.inl r)) : False := by
  unfold zLdc2 at h
  try unfold jmp at h
  try unfold br at h
  try unfold zCallN at h
  repeat' split at h
  all_goals first
    | (cases h; done)
    | (unfold jmp at h; split at h <;> cases h)
    | (unfold br at h; repeat' split at h; all_goals (cases h))
    | (unfold zCallN at h; repeat' split at h; all_goals (cases h))
theorem no_zSpec {C : CF} {d : Nat} {m : MM} {n : Nat} {pc : Nat} {L : LV} {st : List Value} {σ : HP} {r : Res} (h : zSpec C d m n pc L st σ = some (.inl r)) : False := by
  unfold zSpec at h
  try unfold jmp at h
  try unfold br at h
  try unfold zCallN at h
  repeat' split at h
  all_goals first
    | (cases h; done)
    | (unfold jmp at h; split at h <;> cases h)
    | (unfold br at h; repeat' split at h; all_goals (cases h))
    | (unfold zCallN at h; repeat' split at h; all_goals (cases h))
theorem no_zStat {C : CF} {d : Nat} {m : MM} {n : Nat} {pc : Nat} {L : LV} {st : List Value} {σ : HP} {r : Res} (h : zStat C d m n pc L st σ = some (.inl r)) : False := by
  unfold zStat at h
  try unfold jmp at h
  try unfold br at h
  try unfold zCallN at h
  repeat' split at h
  all_goals first
    | (cases h; done)
    | (unfold jmp at h; split at h <;> cases h)
    | (unfold br at h; repeat' split at h; all_goals (cases h))
    | (unfold zCallN at h; repeat' split at h; all_goals (cases h))
theorem no_jmp {pc : Nat} {k : Int} {L : LV} {st : List Value} {σ : HP} {r : Res} (h : jmp pc k L st σ = some (.inl r)) : False := by
  unfold jmp at h
  try unfold jmp at h
  try unfold br at h
  try unfold zCallN at h
  repeat' split at h
  all_goals first
    | (cases h; done)
    | (unfold jmp at h; split at h <;> cases h)
    | (unfold br at h; repeat' split at h; all_goals (cases h))
    | (unfold zCallN at h; repeat' split at h; all_goals (cases h))
theorem no_go {pc : Nat} {L : LV} {st : List Value} {σ : HP} {r : Res} (h : go pc L st σ = some (.inl r)) : False := by
  skip
  try unfold jmp at h
  try unfold br at h
  try unfold zCallN at h
  repeat' split at h
  all_goals first
    | (cases h; done)
    | (unfold jmp at h; split at h <;> cases h)
    | (unfold br at h; repeat' split at h; all_goals (cases h))
    | (unfold zCallN at h; repeat' split at h; all_goals (cases h))
section SndX
variable {p : Program} {l : Launch} {e : Env} {R : Room} {s : State} {m : MethodId} {args : Array Value} {below : List Frame} {meth : Method} {c : Code} {Q : State → Prop}
variable {E : EE} {K : State → Prop} {mm : MM} {d : Nat} {σ0 : HP} {C : CF}
theorem en_virt (A : Act E K p R s m args meth c mm d) (hK : Kw K) (hCS : CS E K l C d) (hCP : CP C) {idx pc : Nat} {L : LV} {st : List Value} {σ : HP} {r : Res} (hd : decode (zb mm) pc = .ok (.invokevirtual idx, 3)) (w : WF mm (pc, L, st, σ)) (h : zVirt C d mm idx pc L st σ = some (.inl r)) (hN9 : hN r.2 = hN σ0 + R.cells) (hS9 : hS r.2 = hS σ0 + R.slots) : WK E p l e R s m args below meth c (QZ E below s R r) σ0 (pc, L, st, σ) := by
  unfold zVirt at h
  split at h
  · next m' hm =>
    split at h
    · next a as ea =>
      split at h
      · next ha => exact en_callV A hK hCS hCP hd (ml_ok hm) ea ha w h hN9 hS9
      · cases h
    · cases h
  · split at h
    · split at h
      · cases h
      · cases h
    · cases h
  · split at h
    · split at h
      · cases h
      · cases h
    · cases h
  · cases h
theorem en_new (A : Act E K p R s m args meth c mm d) (hSX : SpX E K l) {idx pc : Nat} {L : LV} {st : List Value} {σ : HP} {r : Res} (hd : decode (zb mm) pc = .ok (.new idx, 3)) (w : WF mm (pc, L, st, σ)) (h : zNew d mm idx pc L st σ = some (.inl r)) (hN9 : hN r.2 = hN σ0 + R.cells) (hS9 : hS r.2 = hS σ0 + R.slots) : WK E p l e R s m args below meth c (QZ E below s R r) σ0 (pc, L, st, σ) := by
  unfold zNew at h
  split at h
  · cases h
  · split at h
    · next y is ic hx =>
      split at h
      · next hc =>
        cases h
        obtain ⟨c1, c2, c3, c4⟩ := hc
        subst c2
        exact (hSX p e R s m args below meth c (fun _ => True) mm d σ0 A).1 idx pc y is ic L σ hd hx ⟨c1, c3, c4⟩ w hN9 hS9
      · cases h
    · cases h
set_option maxHeartbeats 4000000 in
theorem en_step (A : Act E K p R s m args meth c mm d) (hK : Kw K) (hSX : SpX E K l) (hCS : CS E K l C d) (hCP : CP C) {y : Cfg} {r : Res} (w : WF mm y) (h : step1 C d mm y = some (.inl r)) (hN9 : hN r.2 = hN σ0 + R.cells) (hS9 : hS r.2 = hS σ0 + R.slots) : WK E p l e R s m args below meth c (QZ E below s R r) σ0 y := by
  obtain ⟨pc, L, st, σ⟩ := y
  unfold step1 at h
  split at h
  · next i n hd =>
    have hd : decode (zb mm) pc = .ok (i, n) := hd
    dsimp only at h
    unfold stepI at h
    split at h
    all_goals first
      | exact (no_zTable h).elim
      | exact (no_zLook h).elim
      | (cases h; done)
      | (obtain ⟨e9, h9⟩ := gd_eq h; subst e9)
    all_goals first
      | exact en_iret A hd h9 hN9 hS9
      | exact en_lret A hd h9 hN9 hS9
      | exact en_vret A hd h9 hN9 hS9
      | exact en_virt A hK hCS hCP hd w h9 hN9 hS9
      | exact en_new A hSX hd w h9 hN9 hS9
      | exact (no_zLoadA h9).elim
      | exact (no_zLoadI h9).elim
      | exact (no_zLoadL h9).elim
      | exact (no_zStoreA h9).elim
      | exact (no_zStoreI h9).elim
      | exact (no_zStoreL h9).elim
      | exact (no_zInc h9).elim
      | exact (no_zBin h9).elim
      | exact (no_zDiv h9).elim
      | exact (no_zUn h9).elim
      | exact (no_zBinL h9).elim
      | exact (no_zDivL h9).elim
      | exact (no_zShlL h9).elim
      | exact (no_zI2l h9).elim
      | exact (no_zLcmp h9).elim
      | exact (no_zDup h9).elim
      | exact (no_zDup2 h9).elim
      | exact (no_zPop h9).elim
      | exact (no_zCmp h9).elim
      | exact (no_zIf h9).elim
      | exact (no_zIfnull h9).elim
      | exact (no_zTable h9).elim
      | exact (no_zLook h9).elim
      | exact (no_zGet h9).elim
      | exact (no_zPut h9).elim
      | exact (no_zArr h9).elim
      | exact (no_zAlen h9).elim
      | exact (no_zIald h9).elim
      | exact (no_zIast h9).elim
      | exact (no_zBald h9).elim
      | exact (no_zBast h9).elim
      | exact (no_zLald h9).elim
      | exact (no_zLast h9).elim
      | exact (no_zAald h9).elim
      | exact (no_zAast h9).elim
      | exact (no_zLdc h9).elim
      | exact (no_zLdc2 h9).elim
      | exact (no_zSpec h9).elim
      | exact (no_zStat h9).elim
      | exact (no_jmp h9).elim
      | exact (no_go h9).elim
      | (split at h9
         · exact (no_zArr h9).elim
         · cases h9)
  · cases h
/-- a run to its end -/
theorem act_run (A : Act E K p R s m args meth c mm d) (hK : Kw K) (hSS : SpS E K l) (hSX : SpX E K l) (hz13 : zh mm ≠ [] → zo mm = 13) (hCS : CS E K l C d) (hCP : CP C) {r : Res} (hr : Rm R σ0 r.2) (hend : ∀ y : Cfg, WF mm y → step1 C d mm y = some (.inl r) → WK E p l e R s m args below meth c Q σ0 y) :
    ∀ (f : Nat) (y : Cfg), runN C d mm f y = some r → WF mm y → WK E p l e R s m args below meth c Q σ0 y := by
  intro f
  induction f with
  | zero => intro y h; cases h
  | succ f ih =>
    intro y h w
    unfold runN at h
    cases hs : step1 C d mm y with
    | none => rw [hs] at h; cases h
    | some q =>
      rw [hs] at h
      cases q with
      | inl r' => cases h; exact hend y w hs
      | inr x =>
        obtain ⟨w', hx⟩ := (kp_step hCP d mm y w).1 x hs
        obtain ⟨hx2, -⟩ := kp_run hCP d mm f x r h w'
        have hr' : Rm R σ0 x.2.2.2 := ⟨Nat.le_trans hx2.1 hr.1, Nat.le_trans hx2.2.1 hr.2⟩
        exact sn_step A hK hSS hSX hz13 hCS hCP w hs hr' (ih x h w')
end SndX
/-- where the arguments lie at the entry -/
theorem ent_sl {E : EE} {σ : HP} : ∀ (a : List Value), (∀ v ∈ a, okV σ v) → (lg_sl (a.map (cv E))).length = (entA a).length := by
  intro a
  induction a with
  | nil => intro _; rfl
  | cons v r ih =>
    intro h
    have hr := ih (fun u hu => h u (List.mem_cons_of_mem _ hu))
    have hv := h v List.mem_cons_self
    have e1 : lg_sl ((v :: r).map (cv E)) = (if (cv E v).category = 2 then [.val (cv E v), .second] else [.val (cv E v)]) ++ lg_sl (r.map (cv E)) := rfl
    rw [e1, List.length_append, hr]
    cases v with
    | long x => show 2 + (entA r).length = (entA r).length + 1 + 1; omega
    | int x => show 1 + (entA r).length = (entA r).length + 1; omega
    | ref x => show 1 + (entA r).length = (entA r).length + 1; omega
    | null => show 1 + (entA r).length = (entA r).length + 1; omega
    | _ => exact hv.elim
theorem ent_args {E : EE} {σ : HP} : ∀ (a : List Value), (∀ v ∈ a, okV σ v) → ∀ (k i : Nat) (v : Value), (entA a)[i]? = some (some v) → (k + i, cv E v) ∈ lv_args k (a.map (cv E)) := by
  intro a
  induction a with
  | nil => intro _ k i v h; cases h
  | cons u r ih =>
    intro h k i v e
    have ihr := ih (fun u hu => h u (List.mem_cons_of_mem _ hu))
    have hu := h u List.mem_cons_self
    have e1 : lv_args k ((u :: r).map (cv E)) = (k, cv E u) :: lv_args (if (cv E u).category = 2 then k + 2 else k + 1) (r.map (cv E)) := rfl
    rw [e1]
    cases u with
    | long x =>
      cases i with
      | zero => cases e; exact List.mem_cons_self
      | succ i => cases i with
        | zero => cases e
        | succ i =>
          have := ihr (k + 2) i v e
          rw [show k + 2 + i = k + (i + 1 + 1) by omega] at this
          exact List.mem_cons_of_mem _ this
    | int x =>
      cases i with
      | zero => cases e; exact List.mem_cons_self
      | succ i =>
        have := ihr (k + 1) i v e
        rw [show k + 1 + i = k + (i + 1) by omega] at this
        exact List.mem_cons_of_mem _ this
    | ref x =>
      cases i with
      | zero => cases e; exact List.mem_cons_self
      | succ i =>
        have := ihr (k + 1) i v e
        rw [show k + 1 + i = k + (i + 1) by omega] at this
        exact List.mem_cons_of_mem _ this
    | null =>
      cases i with
      | zero => cases e; exact List.mem_cons_self
      | succ i =>
        have := ihr (k + 1) i v e
        rw [show k + 1 + i = k + (i + 1) by omega] at this
        exact List.mem_cons_of_mem _ this
    | _ => exact hu.elim
theorem ent_lh {E : EE} {σ : HP} {a : List Value} {n : Nat} (hn : (entA a).length ≤ n) (ha : ∀ v ∈ a, okV σ v) : LH E ((lg_sl (a.map (cv E)) ++ List.replicate (n - (lg_sl (a.map (cv E))).length) Slot.unset).toArray) (ent n a) := by
  have hl := lv_entry (a.map (cv E)) (n := n) (by rw [ent_sl a ha]; exact hn)
  have hlen : (ent n a).length = n := by
    unfold ent
    rw [List.length_append, List.length_replicate]
    omega
  unfold LH
  rw [hlen]
  refine lh_sub hl fun q hq => ?_
  obtain ⟨v, h1, h2⟩ := mem_lvl.mp hq
  have h1 : (entA a ++ List.replicate (n - (entA a).length) none)[q.1]? = some (some v) := h1
  rw [List.getElem?_append] at h1
  split at h1
  · have := ent_args (E := E) a ha 0 q.1 v h1
    rw [Nat.zero_add, ← h2] at this
    exact this
  · rw [List.getElem?_replicate] at h1
    split at h1 <;> cases h1
theorem cs_callF {E : EE} {K : State → Prop} {l : Launch} (hK : Kw K) (hSS : SpS E K l) (hSX : SpX E K l) : ∀ d, CS E K l (callF d) d := by
  intro d
  induction d with
  | zero => intro m np a σ r h; cases h
  | succ d ih =>
    intro mm np a σ r h hm ha hw
    have h : (if entOK mm a = true then runF (callF d) d mm (0, ent (zl mm) a, [], σ) else none) = some r := h
    split at h
    · next he =>
      obtain ⟨f, hf⟩ := runF_some.mp h
      have hCP := kp_callF d
      have hwf := wf_ent he ha hw
      obtain ⟨hx, -, -⟩ := kp_run hCP d mm f _ r hf hwf
      have x1 : hN σ ≤ hN r.2 := hx.1
      have x2 : hS σ ≤ hS r.2 := hx.2.1
      obtain ⟨k1, k2, k3, k4, k5, k6, k7, k8⟩ := hm
      have hlen : (entA a).length ≤ zl mm := by
        unfold entOK at he
        simp only [Bool.and_eq_true, decide_eq_true_eq] at he
        exact he.1.2
      have body : ∀ p e s m args below meth c s₁, BodyLoose p l (zy mm) (headSpec (cw mm :: gt) (rmz (d + 1) (hN r.2 - hN σ) (hS r.2 - hS σ))) (zb mm) (zl mm) (zr mm) e s m args below meth c s₁ → c.maxLocals = zl mm → c.exceptionTable.toList = tableOf (zh mm) → PcA E K a σ args s →
          W p l e (rmz (d + 1) (hN r.2 - hN σ) (hS r.2 - hS σ)) s m args below meth c s.heap [] 0 0 (QZ E below s (rmz (d + 1) (hN r.2 - hN σ) (hS r.2 - hS σ)) r) (entryFrame m args (zl mm)) := by
        intro p e s m args below meth c s₁ B hml ht hP
        obtain ⟨rfl, hrep, hkn⟩ := hP
        have hts0 := atoms_spec (ws := cw mm :: gt) B.pre
        have A : Act E K p (rmz (d + 1) (hN r.2 - hN σ) (hS r.2 - hS σ)) s m (a.map (cv E)).toArray meth c mm d := ⟨B.exec, B.bytes, hml, B.returns, by rw [← k5]; exact findClass_of_methodNamed B.named, fun w hw => hts0 w (List.mem_cons_of_mem _ hw), B.notSynchronized, fun z => by rw [(name_of_methodNamed B.named B.method).1]; exact k6 z, ht, hkn, rfl, Nat.le_refl _⟩
        rw [lg_entry_eq]
        refine act_run (σ0 := σ) A hK hSS hSX k8 ih hCP ⟨?_, ?_⟩ (fun y w hs => en_step A hK hSX ih hCP w hs ?_ ?_) f _ hf hwf _ _ _ 0 0 (ent_lh hlen ha) hrep (fun _ z => by cases z) (Nat.zero_add _) (Nat.zero_add _)
        · show hN r.2 ≤ hN σ + (hN r.2 - hN σ); omega
        · show hS r.2 ≤ hS σ + (hS r.2 - hS σ); omega
        · show hN r.2 = hN σ + (hN r.2 - hN σ); omega
        · show hS r.2 = hS σ + (hS r.2 - hS σ); omega
      refine MetFree.of_bodyS (code := zb mm) (maxLocals := zl mm) (ret := zr mm) k3 (fun args s m h hn => ?_) (fun p e s m args below meth c s₁ B hml hP _ => ?_)
      · obtain ⟨me, c, q1, q2, q3, q4, q5, q6, -, -⟩ := cw_code (atoms_spec (ws := cw mm :: gt) h _ List.mem_cons_self) hn
        exact ⟨me, c, q1, q2, q3, q4, q5, q6⟩
      · obtain ⟨me, c9, q1, q2, -, -, -, -, q7, -⟩ := cw_code (atoms_spec (ws := cw mm :: gt) B.pre _ List.mem_cons_self) B.named
        cases Option.some.inj (q1.symm.trans B.method)
        cases Option.some.inj (q2.symm.trans (Stand.of_body B).code)
        obtain ⟨t, a1, o, b1, b2, b3⟩ := body p e s m args below meth c s₁ B hml q7 hP s₁ (by rw [B.state]; rfl) (Stand.of_body B)
        exact ⟨t, o, a1, b1, b2, b3⟩
    · cases h
