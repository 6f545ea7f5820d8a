theorem mt0 (i : Nat) {w : Cond} (h : (k2_sels lw_privs)[i]? = some w) (g : goodWord w = true) : w ∈ gt := List.mem_filter.mpr ⟨List.mem_append_left _ (List.mem_of_getElem? h), g⟩
theorem gt_t1 {w : Cond} (h : w ∈ tables_1) (g : goodWord w = true) : w ∈ gt := List.mem_filter.mpr ⟨List.mem_append_right _ h, g⟩
def isNest : Cond → Bool
  | .methodLinkNest _ _ _ _ => true
  | _ => false
def nw : List Cond := tables_1.filter isNest
theorem mt1 (i : Nat) {w : Cond} (h : tables_1_1[i]? = some w) (g : goodWord w = true) : w ∈ gt := gt_t1 (by unfold tables_1; exact List.mem_append_left _ (List.mem_of_getElem? h)) g
theorem mn1 (i : Nat) {w : Cond} (h : tables_1_1[i]? = some w) (g : isNest w = true) : w ∈ nw := List.mem_filter.mpr ⟨by unfold tables_1; exact List.mem_append_left _ (List.mem_of_getElem? h), g⟩
theorem mt2 (i : Nat) {w : Cond} (h : tables_1_2[i]? = some w) (g : goodWord w = true) : w ∈ gt := gt_t1 (by unfold tables_1; exact List.mem_append_right _ (List.mem_append_left _ (List.mem_of_getElem? h))) g
theorem mn2 (i : Nat) {w : Cond} (h : tables_1_2[i]? = some w) (g : isNest w = true) : w ∈ nw := List.mem_filter.mpr ⟨by unfold tables_1; exact List.mem_append_right _ (List.mem_append_left _ (List.mem_of_getElem? h)), g⟩
theorem mt3 (i : Nat) {w : Cond} (h : tables_1_3[i]? = some w) (g : goodWord w = true) : w ∈ gt := gt_t1 (by unfold tables_1; exact List.mem_append_right _ (List.mem_append_right _ (List.mem_append_left _ (List.mem_of_getElem? h)))) g
theorem mn3 (i : Nat) {w : Cond} (h : tables_1_3[i]? = some w) (g : isNest w = true) : w ∈ nw := List.mem_filter.mpr ⟨by unfold tables_1; exact List.mem_append_right _ (List.mem_append_right _ (List.mem_append_left _ (List.mem_of_getElem? h))), g⟩
theorem mt4 (i : Nat) {w : Cond} (h : tables_1_4[i]? = some w) (g : goodWord w = true) : w ∈ gt := gt_t1 (by unfold tables_1; exact List.mem_append_right _ (List.mem_append_right _ (List.mem_append_right _ (List.mem_append_left _ (List.mem_of_getElem? h))))) g
theorem mn4 (i : Nat) {w : Cond} (h : tables_1_4[i]? = some w) (g : isNest w = true) : w ∈ nw := List.mem_filter.mpr ⟨by unfold tables_1; exact List.mem_append_right _ (List.mem_append_right _ (List.mem_append_right _ (List.mem_append_left _ (List.mem_of_getElem? h)))), g⟩
theorem mt5 (i : Nat) {w : Cond} (h : tables_1_5[i]? = some w) (g : goodWord w = true) : w ∈ gt := gt_t1 (by unfold tables_1; exact List.mem_append_right _ (List.mem_append_right _ (List.mem_append_right _ (List.mem_append_right _ (List.mem_append_left _ (List.mem_of_getElem? h)))))) g
theorem mn5 (i : Nat) {w : Cond} (h : tables_1_5[i]? = some w) (g : isNest w = true) : w ∈ nw := List.mem_filter.mpr ⟨by unfold tables_1; exact List.mem_append_right _ (List.mem_append_right _ (List.mem_append_right _ (List.mem_append_right _ (List.mem_append_left _ (List.mem_of_getElem? h))))), g⟩
theorem mt6 (i : Nat) {w : Cond} (h : tables_1_6[i]? = some w) (g : goodWord w = true) : w ∈ gt := gt_t1 (by unfold tables_1; exact List.mem_append_right _ (List.mem_append_right _ (List.mem_append_right _ (List.mem_append_right _ (List.mem_append_right _ (List.mem_append_left _ (List.mem_of_getElem? h))))))) g
theorem mn6 (i : Nat) {w : Cond} (h : tables_1_6[i]? = some w) (g : isNest w = true) : w ∈ nw := List.mem_filter.mpr ⟨by unfold tables_1; exact List.mem_append_right _ (List.mem_append_right _ (List.mem_append_right _ (List.mem_append_right _ (List.mem_append_right _ (List.mem_append_left _ (List.mem_of_getElem? h)))))), g⟩
theorem mt7 (i : Nat) {w : Cond} (h : tables_1_7[i]? = some w) (g : goodWord w = true) : w ∈ gt := gt_t1 (by unfold tables_1; exact List.mem_append_right _ (List.mem_append_right _ (List.mem_append_right _ (List.mem_append_right _ (List.mem_append_right _ (List.mem_append_right _ (List.mem_append_left _ (List.mem_of_getElem? h)))))))) g
theorem mn7 (i : Nat) {w : Cond} (h : tables_1_7[i]? = some w) (g : isNest w = true) : w ∈ nw := List.mem_filter.mpr ⟨by unfold tables_1; exact List.mem_append_right _ (List.mem_append_right _ (List.mem_append_right _ (List.mem_append_right _ (List.mem_append_right _ (List.mem_append_right _ (List.mem_append_left _ (List.mem_of_getElem? h))))))), g⟩
theorem mt8 (i : Nat) {w : Cond} (h : tables_1_8[i]? = some w) (g : goodWord w = true) : w ∈ gt := gt_t1 (by unfold tables_1; exact List.mem_append_right _ (List.mem_append_right _ (List.mem_append_right _ (List.mem_append_right _ (List.mem_append_right _ (List.mem_append_right _ (List.mem_append_right _ (List.mem_append_left _ (List.mem_of_getElem? h))))))))) g
theorem mn8 (i : Nat) {w : Cond} (h : tables_1_8[i]? = some w) (g : isNest w = true) : w ∈ nw := List.mem_filter.mpr ⟨by unfold tables_1; exact List.mem_append_right _ (List.mem_append_right _ (List.mem_append_right _ (List.mem_append_right _ (List.mem_append_right _ (List.mem_append_right _ (List.mem_append_right _ (List.mem_append_left _ (List.mem_of_getElem? h)))))))), g⟩
theorem mt9 (i : Nat) {w : Cond} (h : tables_1_9[i]? = some w) (g : goodWord w = true) : w ∈ gt := gt_t1 (by unfold tables_1; exact List.mem_append_right _ (List.mem_append_right _ (List.mem_append_right _ (List.mem_append_right _ (List.mem_append_right _ (List.mem_append_right _ (List.mem_append_right _ (List.mem_append_right _ (List.mem_of_getElem? h))))))))) g
theorem mn9 (i : Nat) {w : Cond} (h : tables_1_9[i]? = some w) (g : isNest w = true) : w ∈ nw := List.mem_filter.mpr ⟨by unfold tables_1; exact List.mem_append_right _ (List.mem_append_right _ (List.mem_append_right _ (List.mem_append_right _ (List.mem_append_right _ (List.mem_append_right _ (List.mem_append_right _ (List.mem_append_right _ (List.mem_of_getElem? h)))))))), g⟩
theorem ul_0 : ∀ w ∈ ([Cond.laysFinal "PraiseLift$Book" "PraiseLift$Book" "heavy" "[I", Cond.lays "PraiseLift$Book" "PraiseLift$Book" "many" "I", Cond.lays "PraiseLift$Book" "PraiseLift$Book" "men" "I", Cond.laysFinal "PraiseLift$Book" "PraiseLift$Book" "pairMan" "[I", Cond.laysFinal "PraiseLift$Book" "PraiseLift$Book" "pairCard" "[I", Cond.laysFinal "PraiseLift$Book" "PraiseLift$Book" "pairHeavy" "[I", Cond.lays "PraiseLift$Book" "PraiseLift$Book" "pairs" "I"] : List Cond), w ∈ gt := List.forall_mem_cons.mpr ⟨(mt2 94 rfl rfl), List.forall_mem_cons.mpr ⟨(mt2 96 rfl rfl), List.forall_mem_cons.mpr ⟨(mt2 98 rfl rfl), List.forall_mem_cons.mpr ⟨(mt2 100 rfl rfl), List.forall_mem_cons.mpr ⟨(mt2 102 rfl rfl), List.forall_mem_cons.mpr ⟨(mt2 104 rfl rfl), List.forall_mem_cons.mpr ⟨(mt2 106 rfl rfl), fun _ h => absurd h List.not_mem_nil⟩⟩⟩⟩⟩⟩⟩
theorem ui_0 : ∀ w ∈ u_ws (zC 0) (zT 0) (zN 0), w ∈ gt := ul_0
theorem ul_1 : ∀ w ∈ ([Cond.lays "PraiseLift$Days" "PraiseLift$Days" "day" "I", Cond.lays "PraiseLift$Days" "PraiseLift$Days" "level" "I", Cond.lays "PraiseLift$Days" "PraiseLift$Days" "inside" "I", Cond.lays "PraiseLift$Days" "PraiseLift$Days" "bell" "I", Cond.laysFinal "PraiseLift$Days" "PraiseLift$Days" "place" "[I", Cond.laysFinal "PraiseLift$Days" "PraiseLift$Days" "pride" "[I", Cond.laysFinal "PraiseLift$Days" "PraiseLift$Days" "rode" "[I", Cond.laysFinal "PraiseLift$Days" "PraiseLift$Days" "heardOf" "[I"] : List Cond), w ∈ gt := List.forall_mem_cons.mpr ⟨(mt1 198 rfl rfl), List.forall_mem_cons.mpr ⟨(mt1 200 rfl rfl), List.forall_mem_cons.mpr ⟨(mt1 202 rfl rfl), List.forall_mem_cons.mpr ⟨(mt1 204 rfl rfl), List.forall_mem_cons.mpr ⟨(mt1 206 rfl rfl), List.forall_mem_cons.mpr ⟨(mt1 208 rfl rfl), List.forall_mem_cons.mpr ⟨(mt1 210 rfl rfl), List.forall_mem_cons.mpr ⟨(mt1 212 rfl rfl), fun _ h => absurd h List.not_mem_nil⟩⟩⟩⟩⟩⟩⟩⟩
theorem ui_1 : ∀ w ∈ u_ws (zC 1) (zT 1) (zN 1), w ∈ gt := ul_1
theorem ul_2 : ∀ w ∈ ([Cond.lays "PraiseLift$House" "PraiseLift$House" "floors" "I", Cond.lays "PraiseLift$House" "PraiseLift$House" "men" "I", Cond.lays "PraiseLift$House" "PraiseLift$House" "cards" "I", Cond.lays "PraiseLift$House" "PraiseLift$House" "piano" "I", Cond.laysFinal "PraiseLift$House" "PraiseLift$House" "place" "[I", Cond.laysFinal "PraiseLift$House" "PraiseLift$House" "weight" "[I", Cond.laysFinal "PraiseLift$House" "PraiseLift$House" "vanity" "[I", Cond.laysFinal "PraiseLift$House" "PraiseLift$House" "praise" "[I", Cond.laysFinal "PraiseLift$House" "PraiseLift$House" "truth" "[I"] : List Cond), w ∈ gt := List.forall_mem_cons.mpr ⟨(mt1 117 rfl rfl), List.forall_mem_cons.mpr ⟨(mt1 119 rfl rfl), List.forall_mem_cons.mpr ⟨(mt1 121 rfl rfl), List.forall_mem_cons.mpr ⟨(mt1 123 rfl rfl), List.forall_mem_cons.mpr ⟨(mt1 125 rfl rfl), List.forall_mem_cons.mpr ⟨(mt1 127 rfl rfl), List.forall_mem_cons.mpr ⟨(mt1 129 rfl rfl), List.forall_mem_cons.mpr ⟨(mt1 131 rfl rfl), List.forall_mem_cons.mpr ⟨(mt1 133 rfl rfl), fun _ h => absurd h List.not_mem_nil⟩⟩⟩⟩⟩⟩⟩⟩⟩
theorem ui_2 : ∀ w ∈ u_ws (zC 2) (zT 2) (zN 2), w ∈ gt := ul_2
theorem ul_3 : ∀ w ∈ ([Cond.laysFinal "PraiseLift$Image" "PraiseLift$Image" "days" "LPraiseLift$Days;", Cond.laysFinal "PraiseLift$Image" "PraiseLift$Image" "kept" "[LPraiseLift$Days;", Cond.laysFinal "PraiseLift$Image" "PraiseLift$Image" "works" "I"] : List Cond), w ∈ gt := List.forall_mem_cons.mpr ⟨(mt3 38 rfl rfl), List.forall_mem_cons.mpr ⟨(mt3 40 rfl rfl), List.forall_mem_cons.mpr ⟨(mt3 42 rfl rfl), fun _ h => absurd h List.not_mem_nil⟩⟩⟩
theorem ui_3 : ∀ w ∈ u_ws (zC 3) (zT 3) (zN 3), w ∈ gt := ul_3
theorem ul_4 : ∀ w ∈ ([Cond.laysFinal "PraiseLift$Law" "PraiseLift$Law" "codes" "[I", Cond.laysFinal "PraiseLift$Law" "PraiseLift$Law" "stack" "[I", Cond.laysFinal "PraiseLift$Law" "PraiseLift$Law" "facts" "[I", Cond.lays "PraiseLift$Law" "PraiseLift$Law" "size" "I"] : List Cond), w ∈ gt := List.forall_mem_cons.mpr ⟨(mt1 159 rfl rfl), List.forall_mem_cons.mpr ⟨(mt1 161 rfl rfl), List.forall_mem_cons.mpr ⟨(mt1 163 rfl rfl), List.forall_mem_cons.mpr ⟨(mt1 165 rfl rfl), fun _ h => absurd h List.not_mem_nil⟩⟩⟩⟩
theorem ui_4 : ∀ w ∈ u_ws (zC 4) (zT 4) (zN 4), w ∈ gt := ul_4
theorem ul_5 : ∀ w ∈ ([Cond.lays "PraiseLift$Lift" "PraiseLift$Lift" "plan" "LPraiseLift$House;", Cond.lays "PraiseLift$Lift" "PraiseLift$Lift" "rule" "LPraiseLift$Law;", Cond.laysFinal "PraiseLift$Lift" "PraiseLift$Lift" "days" "LPraiseLift$Days;"] : List Cond), w ∈ gt := List.forall_mem_cons.mpr ⟨(mt1 225 rfl rfl), List.forall_mem_cons.mpr ⟨(mt1 227 rfl rfl), List.forall_mem_cons.mpr ⟨(mt1 229 rfl rfl), fun _ h => absurd h List.not_mem_nil⟩⟩⟩
theorem ui_5 : ∀ w ∈ u_ws (zC 5) (zT 5) (zN 5), w ∈ gt := ul_5
theorem ul_6 : ∀ w ∈ ([Cond.laysFinal "PraiseLift$Past" "PraiseLift$Past" "kept" "[LPraiseLift$Days;", Cond.lays "PraiseLift$Past" "PraiseLift$Past" "works" "I", Cond.laysFinal "PraiseLift$Past" "PraiseLift$Past" "seen" "[LPraiseLift$Image;", Cond.lays "PraiseLift$Past" "PraiseLift$Past" "images" "I"] : List Cond), w ∈ gt := List.forall_mem_cons.mpr ⟨(mt2 39 rfl rfl), List.forall_mem_cons.mpr ⟨(mt2 41 rfl rfl), List.forall_mem_cons.mpr ⟨(mt2 43 rfl rfl), List.forall_mem_cons.mpr ⟨(mt2 45 rfl rfl), fun _ h => absurd h List.not_mem_nil⟩⟩⟩⟩
theorem ui_6 : ∀ w ∈ u_ws (zC 6) (zT 6) (zN 6), w ∈ gt := ul_6
theorem ul_7 : ∀ w ∈ ([Cond.laysFinal "PraiseLift$Reader" "PraiseLift$Reader" "text" "[B", Cond.lays "PraiseLift$Reader" "PraiseLift$Reader" "length" "I", Cond.lays "PraiseLift$Reader" "PraiseLift$Reader" "place" "I", Cond.lays "PraiseLift$Reader" "PraiseLift$Reader" "faultKind" "I", Cond.lays "PraiseLift$Reader" "PraiseLift$Reader" "faultPlace" "I", Cond.lays "PraiseLift$Reader" "PraiseLift$Reader" "wordFrom" "I"] : List Cond), w ∈ gt := List.forall_mem_cons.mpr ⟨(mt1 55 rfl rfl), List.forall_mem_cons.mpr ⟨(mt1 57 rfl rfl), List.forall_mem_cons.mpr ⟨(mt1 59 rfl rfl), List.forall_mem_cons.mpr ⟨(mt1 61 rfl rfl), List.forall_mem_cons.mpr ⟨(mt1 63 rfl rfl), List.forall_mem_cons.mpr ⟨(mt1 65 rfl rfl), fun _ h => absurd h List.not_mem_nil⟩⟩⟩⟩⟩⟩
theorem ui_7 : ∀ w ∈ u_ws (zC 7) (zT 7) (zN 7), w ∈ gt := ul_7
theorem ul_8 : ∀ w ∈ ([Cond.laysFinal "PraiseLift$Scales" "PraiseLift$Scales" "heavyOf" "[I", Cond.laysFinal "PraiseLift$Scales" "PraiseLift$Scales" "most" "[I", Cond.laysFinal "PraiseLift$Scales" "PraiseLift$Scales" "swell" "[I", Cond.laysFinal "PraiseLift$Scales" "PraiseLift$Scales" "ways" "[J"] : List Cond), w ∈ gt := List.forall_mem_cons.mpr ⟨(mt2 58 rfl rfl), List.forall_mem_cons.mpr ⟨(mt2 60 rfl rfl), List.forall_mem_cons.mpr ⟨(mt2 62 rfl rfl), List.forall_mem_cons.mpr ⟨(mt2 64 rfl rfl), fun _ h => absurd h List.not_mem_nil⟩⟩⟩⟩
theorem ui_8 : ∀ w ∈ u_ws (zC 8) (zT 8) (zN 8), w ∈ gt := ul_8
theorem ul_9 : ∀ w ∈ ([Cond.lays "PraiseLift$Week" "PraiseLift$Week" "seed" "I"] : List Cond), w ∈ gt := List.forall_mem_cons.mpr ⟨(mt2 75 rfl rfl), fun _ h => absurd h List.not_mem_nil⟩
theorem ui_9 : ∀ w ∈ u_ws (zC 9) (zT 9) (zN 9), w ∈ gt := ul_9
theorem ul_10 : ∀ w ∈ ([Cond.laysFinal "PraiseLift$Work" "PraiseLift$Work" "kind" "[I", Cond.laysFinal "PraiseLift$Work" "PraiseLift$Work" "first" "[I", Cond.laysFinal "PraiseLift$Work" "PraiseLift$Work" "second" "[I", Cond.lays "PraiseLift$Work" "PraiseLift$Work" "size" "I", Cond.lays "PraiseLift$Work" "PraiseLift$Work" "begun" "I", Cond.lays "PraiseLift$Work" "PraiseLift$Work" "done" "I", Cond.lays "PraiseLift$Work" "PraiseLift$Work" "refused" "I"] : List Cond), w ∈ gt := List.forall_mem_cons.mpr ⟨(mt2 8 rfl rfl), List.forall_mem_cons.mpr ⟨(mt2 10 rfl rfl), List.forall_mem_cons.mpr ⟨(mt2 12 rfl rfl), List.forall_mem_cons.mpr ⟨(mt2 14 rfl rfl), List.forall_mem_cons.mpr ⟨(mt2 16 rfl rfl), List.forall_mem_cons.mpr ⟨(mt2 18 rfl rfl), List.forall_mem_cons.mpr ⟨(mt2 20 rfl rfl), fun _ h => absurd h List.not_mem_nil⟩⟩⟩⟩⟩⟩⟩
theorem ui_10 : ∀ w ∈ u_ws (zC 10) (zT 10) (zN 10), w ∈ gt := ul_10
theorem ul_11 : ∀ w ∈ ([Cond.laysFinal "PraiseLift" "PraiseLift" "reader" "LPraiseLift$Reader;", Cond.laysFinal "PraiseLift" "PraiseLift" "now" "LPraiseLift$Lift;", Cond.laysFinal "PraiseLift" "PraiseLift" "trial" "LPraiseLift$Lift;", Cond.laysFinal "PraiseLift" "PraiseLift" "steps" "LPraiseLift$Work;", Cond.laysFinal "PraiseLift" "PraiseLift" "past" "LPraiseLift$Past;", Cond.laysFinal "PraiseLift" "PraiseLift" "scales" "LPraiseLift$Scales;", Cond.laysFinal "PraiseLift" "PraiseLift" "tried" "LPraiseLift$Week;", Cond.lays "PraiseLift" "PraiseLift" "spareLaw" "LPraiseLift$Law;", Cond.lays "PraiseLift" "PraiseLift" "lines" "LPraiseLift$Book;", Cond.lays "PraiseLift" "PraiseLift" "spareLines" "LPraiseLift$Book;", Cond.lays "PraiseLift" "PraiseLift" "tapeBytes" "I", Cond.lays "PraiseLift" "PraiseLift" "faultPlace" "I", Cond.lays "PraiseLift" "PraiseLift" "stepsRefused" "I", Cond.lays "PraiseLift" "PraiseLift" "nobodyRefused" "I", Cond.lays "PraiseLift" "PraiseLift" "argumentsRefused" "I"] : List Cond), w ∈ gt := List.forall_mem_cons.mpr ⟨(mt2 124 rfl rfl), List.forall_mem_cons.mpr ⟨(mt2 126 rfl rfl), List.forall_mem_cons.mpr ⟨(mt2 128 rfl rfl), List.forall_mem_cons.mpr ⟨(mt2 130 rfl rfl), List.forall_mem_cons.mpr ⟨(mt2 132 rfl rfl), List.forall_mem_cons.mpr ⟨(mt2 134 rfl rfl), List.forall_mem_cons.mpr ⟨(mt2 136 rfl rfl), List.forall_mem_cons.mpr ⟨(mt2 138 rfl rfl), List.forall_mem_cons.mpr ⟨(mt2 140 rfl rfl), List.forall_mem_cons.mpr ⟨(mt2 142 rfl rfl), List.forall_mem_cons.mpr ⟨(mt2 144 rfl rfl), List.forall_mem_cons.mpr ⟨(mt2 146 rfl rfl), List.forall_mem_cons.mpr ⟨(mt2 148 rfl rfl), List.forall_mem_cons.mpr ⟨(mt2 150 rfl rfl), List.forall_mem_cons.mpr ⟨(mt2 152 rfl rfl), fun _ h => absurd h List.not_mem_nil⟩⟩⟩⟩⟩⟩⟩⟩⟩⟩⟩⟩⟩⟩⟩
theorem ui_11 : ∀ w ∈ u_ws (zC 11) (zT 11) (zN 11), w ∈ gt := ul_11
theorem ul_12 : ∀ w ∈ ([Cond.lays "PraiseLiftModel" "PraiseLiftModel" "thrown" "I", Cond.laysFinal "PraiseLiftModel" "PraiseLiftModel" "refused" "[I", Cond.lays "PraiseLiftModel" "PraiseLiftModel" "taped" "I", Cond.lays "PraiseLiftModel" "PraiseLiftModel" "size" "I", Cond.lays "PraiseLiftModel" "PraiseLiftModel" "at" "I", Cond.lays "PraiseLiftModel" "PraiseLiftModel" "bad" "I", Cond.lays "PraiseLiftModel" "PraiseLiftModel" "badKind" "I", Cond.lays "PraiseLiftModel" "PraiseLiftModel" "opens" "I", Cond.lays "PraiseLiftModel" "PraiseLiftModel" "faultAt" "I", Cond.laysFinal "PraiseLiftModel" "PraiseLiftModel" "tape" "[I", Cond.laysFinal "PraiseLiftModel" "PraiseLiftModel" "newMan" "[I", Cond.laysFinal "PraiseLiftModel" "PraiseLiftModel" "newCard" "[I", Cond.laysFinal "PraiseLiftModel" "PraiseLiftModel" "man" "[I", Cond.laysFinal "PraiseLiftModel" "PraiseLiftModel" "card" "[I", Cond.lays "PraiseLiftModel" "PraiseLiftModel" "newMen" "I", Cond.lays "PraiseLiftModel" "PraiseLiftModel" "newCards" "I", Cond.lays "PraiseLiftModel" "PraiseLiftModel" "newFloors" "I", Cond.lays "PraiseLiftModel" "PraiseLiftModel" "newPiano" "I", Cond.lays "PraiseLiftModel" "PraiseLiftModel" "men" "I", Cond.lays "PraiseLiftModel" "PraiseLiftModel" "cards" "I", Cond.lays "PraiseLiftModel" "PraiseLiftModel" "floors" "I", Cond.lays "PraiseLiftModel" "PraiseLiftModel" "piano" "I", Cond.laysFinal "PraiseLiftModel" "PraiseLiftModel" "newCode" "[I", Cond.laysFinal "PraiseLiftModel" "PraiseLiftModel" "newOf" "[I", Cond.laysFinal "PraiseLiftModel" "PraiseLiftModel" "code" "[I", Cond.laysFinal "PraiseLiftModel" "PraiseLiftModel" "ofCode" "[I", Cond.laysFinal "PraiseLiftModel" "PraiseLiftModel" "stack" "[I", Cond.lays "PraiseLiftModel" "PraiseLiftModel" "newCodes" "I", Cond.lays "PraiseLiftModel" "PraiseLiftModel" "codes" "I", Cond.laysFinal "PraiseLiftModel" "PraiseLiftModel" "facts" "[I", Cond.laysFinal "PraiseLiftModel" "PraiseLiftModel" "newStep" "[I", Cond.laysFinal "PraiseLiftModel" "PraiseLiftModel" "step" "[I", Cond.lays "PraiseLiftModel" "PraiseLiftModel" "newSteps" "I", Cond.lays "PraiseLiftModel" "PraiseLiftModel" "works" "I", Cond.lays "PraiseLiftModel" "PraiseLiftModel" "refusedSteps" "I", Cond.lays "PraiseLiftModel" "PraiseLiftModel" "begun" "I", Cond.lays "PraiseLiftModel" "PraiseLiftModel" "done" "I", Cond.lays "PraiseLiftModel" "PraiseLiftModel" "refusedNow" "I", Cond.laysFinal "PraiseLiftModel" "PraiseLiftModel" "now" "[I", Cond.laysFinal "PraiseLiftModel" "PraiseLiftModel" "s" "[I", Cond.laysFinal "PraiseLiftModel" "PraiseLiftModel" "past" "[I", Cond.laysFinal "PraiseLiftModel" "PraiseLiftModel" "newBook" "[I", Cond.laysFinal "PraiseLiftModel" "PraiseLiftModel" "book" "[I", Cond.lays "PraiseLiftModel" "PraiseLiftModel" "books" "I", Cond.laysFinal "PraiseLiftModel" "PraiseLiftModel" "mostOf" "[I", Cond.laysFinal "PraiseLiftModel" "PraiseLiftModel" "ridesOf" "[I", Cond.laysFinal "PraiseLiftModel" "PraiseLiftModel" "leftBy" "[I", Cond.laysFinal "PraiseLiftModel" "PraiseLiftModel" "kindBy" "[J", Cond.lays "PraiseLiftModel" "PraiseLiftModel" "seedNow" "I", Cond.laysFinal "PraiseLiftModel" "PraiseLiftModel" "image" "[I", Cond.lays "PraiseLiftModel" "PraiseLiftModel" "images" "I"] : List Cond), w ∈ gt := List.forall_mem_cons.mpr ⟨(mt7 15 rfl rfl), List.forall_mem_cons.mpr ⟨(mt7 17 rfl rfl), List.forall_mem_cons.mpr ⟨(mt7 19 rfl rfl), List.forall_mem_cons.mpr ⟨(mt7 21 rfl rfl), List.forall_mem_cons.mpr ⟨(mt7 23 rfl rfl), List.forall_mem_cons.mpr ⟨(mt7 25 rfl rfl), List.forall_mem_cons.mpr ⟨(mt7 27 rfl rfl), List.forall_mem_cons.mpr ⟨(mt7 29 rfl rfl), List.forall_mem_cons.mpr ⟨(mt7 31 rfl rfl), List.forall_mem_cons.mpr ⟨(mt7 33 rfl rfl), List.forall_mem_cons.mpr ⟨(mt7 35 rfl rfl), List.forall_mem_cons.mpr ⟨(mt7 37 rfl rfl), List.forall_mem_cons.mpr ⟨(mt7 39 rfl rfl), List.forall_mem_cons.mpr ⟨(mt7 41 rfl rfl), List.forall_mem_cons.mpr ⟨(mt7 43 rfl rfl), List.forall_mem_cons.mpr ⟨(mt7 45 rfl rfl), List.forall_mem_cons.mpr ⟨(mt7 47 rfl rfl), List.forall_mem_cons.mpr ⟨(mt7 49 rfl rfl), List.forall_mem_cons.mpr ⟨(mt7 51 rfl rfl), List.forall_mem_cons.mpr ⟨(mt7 53 rfl rfl), List.forall_mem_cons.mpr ⟨(mt7 55 rfl rfl), List.forall_mem_cons.mpr ⟨(mt7 57 rfl rfl), List.forall_mem_cons.mpr ⟨(mt7 59 rfl rfl), List.forall_mem_cons.mpr ⟨(mt7 61 rfl rfl), List.forall_mem_cons.mpr ⟨(mt7 63 rfl rfl), List.forall_mem_cons.mpr ⟨(mt7 65 rfl rfl), List.forall_mem_cons.mpr ⟨(mt7 67 rfl rfl), List.forall_mem_cons.mpr ⟨(mt7 69 rfl rfl), List.forall_mem_cons.mpr ⟨(mt7 71 rfl rfl), List.forall_mem_cons.mpr ⟨(mt7 73 rfl rfl), List.forall_mem_cons.mpr ⟨(mt7 75 rfl rfl), List.forall_mem_cons.mpr ⟨(mt7 77 rfl rfl), List.forall_mem_cons.mpr ⟨(mt7 79 rfl rfl), List.forall_mem_cons.mpr ⟨(mt7 81 rfl rfl), List.forall_mem_cons.mpr ⟨(mt7 83 rfl rfl), List.forall_mem_cons.mpr ⟨(mt7 85 rfl rfl), List.forall_mem_cons.mpr ⟨(mt7 87 rfl rfl), List.forall_mem_cons.mpr ⟨(mt7 89 rfl rfl), List.forall_mem_cons.mpr ⟨(mt7 91 rfl rfl), List.forall_mem_cons.mpr ⟨(mt7 93 rfl rfl), List.forall_mem_cons.mpr ⟨(mt7 95 rfl rfl), List.forall_mem_cons.mpr ⟨(mt7 97 rfl rfl), List.forall_mem_cons.mpr ⟨(mt7 99 rfl rfl), List.forall_mem_cons.mpr ⟨(mt7 101 rfl rfl), List.forall_mem_cons.mpr ⟨(mt7 103 rfl rfl), List.forall_mem_cons.mpr ⟨(mt7 105 rfl rfl), List.forall_mem_cons.mpr ⟨(mt7 107 rfl rfl), List.forall_mem_cons.mpr ⟨(mt7 109 rfl rfl), List.forall_mem_cons.mpr ⟨(mt7 111 rfl rfl), List.forall_mem_cons.mpr ⟨(mt7 113 rfl rfl), List.forall_mem_cons.mpr ⟨(mt7 115 rfl rfl), fun _ h => absurd h List.not_mem_nil⟩⟩⟩⟩⟩⟩⟩⟩⟩⟩⟩⟩⟩⟩⟩⟩⟩⟩⟩⟩⟩⟩⟩⟩⟩⟩⟩⟩⟩⟩⟩⟩⟩⟩⟩⟩⟩⟩⟩⟩⟩⟩⟩⟩⟩⟩⟩⟩⟩⟩⟩
theorem ui_12 : ∀ w ∈ u_ws (zC 12) (zT 12) (zN 12), w ∈ gt := ul_12
theorem u_in {ci : Nat} (h : ci < 13) : ∀ w ∈ u_ws (zC ci) (zT ci) (zN ci), w ∈ gt := match ci, h with
  | 0, _ => ui_0
  | 1, _ => ui_1
  | 2, _ => ui_2
  | 3, _ => ui_3
  | 4, _ => ui_4
  | 5, _ => ui_5
  | 6, _ => ui_6
  | 7, _ => ui_7
  | 8, _ => ui_8
  | 9, _ => ui_9
  | 10, _ => ui_10
  | 11, _ => ui_11
  | 12, _ => ui_12
def zTy : List (List FieldType) := [[.array (.int), .int, .int, .array (.int), .array (.int), .array (.int), .int],
  [.int, .int, .int, .int, .array (.int), .array (.int), .array (.int), .array (.int)],
  [.int, .int, .int, .int, .array (.int), .array (.int), .array (.int), .array (.int), .array (.int)],
  [.object "PraiseLift$Days", .array (.object "PraiseLift$Days"), .int],
  [.array (.int), .array (.int), .array (.int), .int],
  [.object "PraiseLift$House", .object "PraiseLift$Law", .object "PraiseLift$Days"],
  [.array (.object "PraiseLift$Days"), .int, .array (.object "PraiseLift$Image"), .int],
  [.array (.byte), .int, .int, .int, .int, .int],
  [.array (.int), .array (.int), .array (.int), .array (.long)],
  [.int],
  [.array (.int), .array (.int), .array (.int), .int, .int, .int, .int],
  [.object "PraiseLift$Reader", .object "PraiseLift$Lift", .object "PraiseLift$Lift", .object "PraiseLift$Work", .object "PraiseLift$Past", .object "PraiseLift$Scales", .object "PraiseLift$Week", .object "PraiseLift$Law", .object "PraiseLift$Book", .object "PraiseLift$Book", .int, .int, .int, .int, .int],
  [.int, .array (.int), .int, .int, .int, .int, .int, .int, .int, .array (.int), .array (.int), .array (.int), .array (.int), .array (.int), .int, .int, .int, .int, .int, .int, .int, .int, .array (.int), .array (.int), .array (.int), .array (.int), .array (.int), .int, .int, .array (.int), .array (.int), .array (.int), .int, .int, .int, .int, .int, .int, .array (.int), .array (.int), .array (.int), .array (.int), .array (.int), .int, .array (.int), .array (.int), .array (.int), .array (.long), .int, .array (.int), .int]]
def zty (ci k : Nat) : FieldType := (zTy.getD ci []).getD k .int
set_option maxRecDepth 100000 in
theorem nm_0 : ∀ a, a < zN 0 → ∀ b, b < zN 0 → a ≠ b → (zT 0 a).2.1 ≠ (zT 0 b).2.1 := by decide +kernel
set_option maxRecDepth 100000 in
theorem ty_0 : ∀ k, k < zN 0 → parseFieldDescriptor (zT 0 k).2.2.1 = some (zty 0 k) ∧ ((zft 0 k = 0 ∧ zty 0 k = .int) ∨ (zft 0 k ≠ 0 ∧ (zty 0 k).isReference = true)) ∧ (zT 0 k).2.2.2 = zfin 0 k ∧ (zT 0 k).1 = zC 0 := by decide +kernel
theorem in_0 : Cond.instantiable (zC 0) (zN 0) ∈ gt ∧ Cond.initialized (zC 0) ∈ gt := ⟨(mt2 81 rfl rfl), (mt1 11 rfl rfl)⟩
set_option maxRecDepth 100000 in
theorem nm_1 : ∀ a, a < zN 1 → ∀ b, b < zN 1 → a ≠ b → (zT 1 a).2.1 ≠ (zT 1 b).2.1 := by decide +kernel
set_option maxRecDepth 100000 in
theorem ty_1 : ∀ k, k < zN 1 → parseFieldDescriptor (zT 1 k).2.2.1 = some (zty 1 k) ∧ ((zft 1 k = 0 ∧ zty 1 k = .int) ∨ (zft 1 k ≠ 0 ∧ (zty 1 k).isReference = true)) ∧ (zT 1 k).2.2.2 = zfin 1 k ∧ (zT 1 k).1 = zC 1 := by decide +kernel
theorem in_1 : Cond.instantiable (zC 1) (zN 1) ∈ gt ∧ Cond.initialized (zC 1) ∈ gt := ⟨(mt1 169 rfl rfl), (mt1 6 rfl rfl)⟩
set_option maxRecDepth 100000 in
theorem nm_2 : ∀ a, a < zN 2 → ∀ b, b < zN 2 → a ≠ b → (zT 2 a).2.1 ≠ (zT 2 b).2.1 := by decide +kernel
set_option maxRecDepth 100000 in
theorem ty_2 : ∀ k, k < zN 2 → parseFieldDescriptor (zT 2 k).2.2.1 = some (zty 2 k) ∧ ((zft 2 k = 0 ∧ zty 2 k = .int) ∨ (zft 2 k ≠ 0 ∧ (zty 2 k).isReference = true)) ∧ (zT 2 k).2.2.2 = zfin 2 k ∧ (zT 2 k).1 = zC 2 := by decide +kernel
theorem in_2 : Cond.instantiable (zC 2) (zN 2) ∈ gt ∧ Cond.initialized (zC 2) ∈ gt := ⟨(mt1 76 rfl rfl), (mt1 4 rfl rfl)⟩
set_option maxRecDepth 100000 in
theorem nm_3 : ∀ a, a < zN 3 → ∀ b, b < zN 3 → a ≠ b → (zT 3 a).2.1 ≠ (zT 3 b).2.1 := by decide +kernel
set_option maxRecDepth 100000 in
theorem ty_3 : ∀ k, k < zN 3 → parseFieldDescriptor (zT 3 k).2.2.1 = some (zty 3 k) ∧ ((zft 3 k = 0 ∧ zty 3 k = .int) ∨ (zft 3 k ≠ 0 ∧ (zty 3 k).isReference = true)) ∧ (zT 3 k).2.2.2 = zfin 3 k ∧ (zT 3 k).1 = zC 3 := by decide +kernel
theorem in_3 : Cond.instantiable (zC 3) (zN 3) ∈ gt ∧ Cond.initialized (zC 3) ∈ gt := ⟨(mt3 25 rfl rfl), (mt1 26 rfl rfl)⟩
set_option maxRecDepth 100000 in
theorem nm_4 : ∀ a, a < zN 4 → ∀ b, b < zN 4 → a ≠ b → (zT 4 a).2.1 ≠ (zT 4 b).2.1 := by decide +kernel
set_option maxRecDepth 100000 in
theorem ty_4 : ∀ k, k < zN 4 → parseFieldDescriptor (zT 4 k).2.2.1 = some (zty 4 k) ∧ ((zft 4 k = 0 ∧ zty 4 k = .int) ∨ (zft 4 k ≠ 0 ∧ (zty 4 k).isReference = true)) ∧ (zT 4 k).2.2.2 = zfin 4 k ∧ (zT 4 k).1 = zC 4 := by decide +kernel
theorem in_4 : Cond.instantiable (zC 4) (zN 4) ∈ gt ∧ Cond.initialized (zC 4) ∈ gt := ⟨(mt1 138 rfl rfl), (mt1 5 rfl rfl)⟩
set_option maxRecDepth 100000 in
theorem nm_5 : ∀ a, a < zN 5 → ∀ b, b < zN 5 → a ≠ b → (zT 5 a).2.1 ≠ (zT 5 b).2.1 := by decide +kernel
set_option maxRecDepth 100000 in
theorem ty_5 : ∀ k, k < zN 5 → parseFieldDescriptor (zT 5 k).2.2.1 = some (zty 5 k) ∧ ((zft 5 k = 0 ∧ zty 5 k = .int) ∨ (zft 5 k ≠ 0 ∧ (zty 5 k).isReference = true)) ∧ (zT 5 k).2.2.2 = zfin 5 k ∧ (zT 5 k).1 = zC 5 := by decide +kernel
theorem in_5 : Cond.instantiable (zC 5) (zN 5) ∈ gt ∧ Cond.initialized (zC 5) ∈ gt := ⟨(mt1 70 rfl rfl), (mt1 3 rfl rfl)⟩
set_option maxRecDepth 100000 in
theorem nm_6 : ∀ a, a < zN 6 → ∀ b, b < zN 6 → a ≠ b → (zT 6 a).2.1 ≠ (zT 6 b).2.1 := by decide +kernel
set_option maxRecDepth 100000 in
theorem ty_6 : ∀ k, k < zN 6 → parseFieldDescriptor (zT 6 k).2.2.1 = some (zty 6 k) ∧ ((zft 6 k = 0 ∧ zty 6 k = .int) ∨ (zft 6 k ≠ 0 ∧ (zty 6 k).isReference = true)) ∧ (zT 6 k).2.2.2 = zfin 6 k ∧ (zT 6 k).1 = zC 6 := by decide +kernel
theorem in_6 : Cond.instantiable (zC 6) (zN 6) ∈ gt ∧ Cond.initialized (zC 6) ∈ gt := ⟨(mt2 24 rfl rfl), (mt1 8 rfl rfl)⟩
set_option maxRecDepth 100000 in
theorem nm_7 : ∀ a, a < zN 7 → ∀ b, b < zN 7 → a ≠ b → (zT 7 a).2.1 ≠ (zT 7 b).2.1 := by decide +kernel
set_option maxRecDepth 100000 in
theorem ty_7 : ∀ k, k < zN 7 → parseFieldDescriptor (zT 7 k).2.2.1 = some (zty 7 k) ∧ ((zft 7 k = 0 ∧ zty 7 k = .int) ∨ (zft 7 k ≠ 0 ∧ (zty 7 k).isReference = true)) ∧ (zT 7 k).2.2.2 = zfin 7 k ∧ (zT 7 k).1 = zC 7 := by decide +kernel
theorem in_7 : Cond.instantiable (zC 7) (zN 7) ∈ gt ∧ Cond.initialized (zC 7) ∈ gt := ⟨(mt1 36 rfl rfl), (mt1 2 rfl rfl)⟩
set_option maxRecDepth 100000 in
theorem nm_8 : ∀ a, a < zN 8 → ∀ b, b < zN 8 → a ≠ b → (zT 8 a).2.1 ≠ (zT 8 b).2.1 := by decide +kernel
set_option maxRecDepth 100000 in
theorem ty_8 : ∀ k, k < zN 8 → parseFieldDescriptor (zT 8 k).2.2.1 = some (zty 8 k) ∧ ((zft 8 k = 0 ∧ zty 8 k = .int) ∨ (zft 8 k ≠ 0 ∧ (zty 8 k).isReference = true)) ∧ (zT 8 k).2.2.2 = zfin 8 k ∧ (zT 8 k).1 = zC 8 := by decide +kernel
theorem in_8 : Cond.instantiable (zC 8) (zN 8) ∈ gt ∧ Cond.initialized (zC 8) ∈ gt := ⟨(mt2 49 rfl rfl), (mt1 9 rfl rfl)⟩
set_option maxRecDepth 100000 in
theorem nm_9 : ∀ a, a < zN 9 → ∀ b, b < zN 9 → a ≠ b → (zT 9 a).2.1 ≠ (zT 9 b).2.1 := by decide +kernel
set_option maxRecDepth 100000 in
theorem ty_9 : ∀ k, k < zN 9 → parseFieldDescriptor (zT 9 k).2.2.1 = some (zty 9 k) ∧ ((zft 9 k = 0 ∧ zty 9 k = .int) ∨ (zft 9 k ≠ 0 ∧ (zty 9 k).isReference = true)) ∧ (zT 9 k).2.2.2 = zfin 9 k ∧ (zT 9 k).1 = zC 9 := by decide +kernel
theorem in_9 : Cond.instantiable (zC 9) (zN 9) ∈ gt ∧ Cond.initialized (zC 9) ∈ gt := ⟨(mt2 69 rfl rfl), (mt1 10 rfl rfl)⟩
set_option maxRecDepth 100000 in
theorem nm_10 : ∀ a, a < zN 10 → ∀ b, b < zN 10 → a ≠ b → (zT 10 a).2.1 ≠ (zT 10 b).2.1 := by decide +kernel
set_option maxRecDepth 100000 in
theorem ty_10 : ∀ k, k < zN 10 → parseFieldDescriptor (zT 10 k).2.2.1 = some (zty 10 k) ∧ ((zft 10 k = 0 ∧ zty 10 k = .int) ∨ (zft 10 k ≠ 0 ∧ (zty 10 k).isReference = true)) ∧ (zT 10 k).2.2.2 = zfin 10 k ∧ (zT 10 k).1 = zC 10 := by decide +kernel
theorem in_10 : Cond.instantiable (zC 10) (zN 10) ∈ gt ∧ Cond.initialized (zC 10) ∈ gt := ⟨(mt1 233 rfl rfl), (mt1 7 rfl rfl)⟩
set_option maxRecDepth 100000 in
theorem nm_11 : ∀ a, a < zN 11 → ∀ b, b < zN 11 → a ≠ b → (zT 11 a).2.1 ≠ (zT 11 b).2.1 := by decide +kernel
set_option maxRecDepth 100000 in
theorem ty_11 : ∀ k, k < zN 11 → parseFieldDescriptor (zT 11 k).2.2.1 = some (zty 11 k) ∧ ((zft 11 k = 0 ∧ zty 11 k = .int) ∨ (zft 11 k ≠ 0 ∧ (zty 11 k).isReference = true)) ∧ (zT 11 k).2.2.2 = zfin 11 k ∧ (zT 11 k).1 = zC 11 := by decide +kernel
theorem in_11 : Cond.instantiable (zC 11) (zN 11) ∈ gt ∧ Cond.initialized (zC 11) ∈ gt := ⟨(mt1 28 rfl rfl), (mt1 1 rfl rfl)⟩
set_option maxRecDepth 100000 in
theorem nm_12 : ∀ a, a < zN 12 → ∀ b, b < zN 12 → a ≠ b → (zT 12 a).2.1 ≠ (zT 12 b).2.1 := by decide +kernel
set_option maxRecDepth 100000 in
theorem ty_12 : ∀ k, k < zN 12 → parseFieldDescriptor (zT 12 k).2.2.1 = some (zty 12 k) ∧ ((zft 12 k = 0 ∧ zty 12 k = .int) ∨ (zft 12 k ≠ 0 ∧ (zty 12 k).isReference = true)) ∧ (zT 12 k).2.2.2 = zfin 12 k ∧ (zT 12 k).1 = zC 12 := by decide +kernel
theorem in_12 : Cond.instantiable (zC 12) (zN 12) ∈ gt ∧ Cond.initialized (zC 12) ∈ gt := ⟨(mt6 187 rfl rfl), (mt1 12 rfl rfl)⟩
theorem u_nm {ci : Nat} (h : ci < 13) : ∀ a, a < zN ci → ∀ b, b < zN ci → a ≠ b → (zT ci a).2.1 ≠ (zT ci b).2.1 := match ci, h with
  | 0, _ => nm_0
  | 1, _ => nm_1
  | 2, _ => nm_2
  | 3, _ => nm_3
  | 4, _ => nm_4
  | 5, _ => nm_5
  | 6, _ => nm_6
  | 7, _ => nm_7
  | 8, _ => nm_8
  | 9, _ => nm_9
  | 10, _ => nm_10
  | 11, _ => nm_11
  | 12, _ => nm_12
theorem u_ty {ci : Nat} (h : ci < 13) : ∀ k, k < zN ci → parseFieldDescriptor (zT ci k).2.2.1 = some (zty ci k) ∧ ((zft ci k = 0 ∧ zty ci k = .int) ∨ (zft ci k ≠ 0 ∧ (zty ci k).isReference = true)) ∧ (zT ci k).2.2.2 = zfin ci k ∧ (zT ci k).1 = zC ci := match ci, h with
  | 0, _ => ty_0
  | 1, _ => ty_1
  | 2, _ => ty_2
  | 3, _ => ty_3
  | 4, _ => ty_4
  | 5, _ => ty_5
  | 6, _ => ty_6
  | 7, _ => ty_7
  | 8, _ => ty_8
  | 9, _ => ty_9
  | 10, _ => ty_10
  | 11, _ => ty_11
  | 12, _ => ty_12
theorem u_ins {ci : Nat} (h : ci < 13) : Cond.instantiable (zC ci) (zN ci) ∈ gt ∧ Cond.initialized (zC ci) ∈ gt := match ci, h with
  | 0, _ => in_0
  | 1, _ => in_1
  | 2, _ => in_2
  | 3, _ => in_3
  | 4, _ => in_4
  | 5, _ => in_5
  | 6, _ => in_6
  | 7, _ => in_7
  | 8, _ => in_8
  | 9, _ => in_9
  | 10, _ => in_10
  | 11, _ => in_11
  | 12, _ => in_12
set_option maxRecDepth 100000 in
theorem zN_zT : ∀ ci, ci < 13 → (zTl.getD ci []).length = zN ci := by decide +kernel
set_option maxRecDepth 100000 in
theorem flk_0 : ∀ e ∈ flL 0, Cond.fieldLink (zC 0) e.1 (zT e.2.1 e.2.2).1 (zT e.2.1 e.2.2).2.1 (zT e.2.1 e.2.2).2.2.1 ∈ gt := List.forall_mem_cons.mpr ⟨(mt2 86 rfl rfl), List.forall_mem_cons.mpr ⟨(mt2 87 rfl rfl), List.forall_mem_cons.mpr ⟨(mt2 89 rfl rfl), List.forall_mem_cons.mpr ⟨(mt2 90 rfl rfl), List.forall_mem_cons.mpr ⟨(mt2 91 rfl rfl), List.forall_mem_cons.mpr ⟨(mt2 92 rfl rfl), List.forall_mem_cons.mpr ⟨(mt2 93 rfl rfl), List.forall_mem_cons.mpr ⟨(mt1 45 rfl rfl), List.forall_mem_cons.mpr ⟨(mt1 218 rfl rfl), List.forall_mem_cons.mpr ⟨(mt1 90 rfl rfl), List.forall_mem_cons.mpr ⟨(mt1 95 rfl rfl), fun _ h => absurd h List.not_mem_nil⟩⟩⟩⟩⟩⟩⟩⟩⟩⟩⟩
set_option maxRecDepth 100000 in
theorem flk_1 : ∀ e ∈ flL 1, Cond.fieldLink (zC 1) e.1 (zT e.2.1 e.2.2).1 (zT e.2.1 e.2.2).2.1 (zT e.2.1 e.2.2).2.2.1 ∈ gt := List.forall_mem_cons.mpr ⟨(mt1 174 rfl rfl), List.forall_mem_cons.mpr ⟨(mt1 177 rfl rfl), List.forall_mem_cons.mpr ⟨(mt1 181 rfl rfl), List.forall_mem_cons.mpr ⟨(mt1 185 rfl rfl), List.forall_mem_cons.mpr ⟨(mt1 188 rfl rfl), List.forall_mem_cons.mpr ⟨(mt1 190 rfl rfl), List.forall_mem_cons.mpr ⟨(mt1 193 rfl rfl), List.forall_mem_cons.mpr ⟨(mt1 196 rfl rfl), List.forall_mem_cons.mpr ⟨(mt1 104 rfl rfl), fun _ h => absurd h List.not_mem_nil⟩⟩⟩⟩⟩⟩⟩⟩⟩
set_option maxRecDepth 100000 in
theorem flk_2 : ∀ e ∈ flL 2, Cond.fieldLink (zC 2) e.1 (zT e.2.1 e.2.2).1 (zT e.2.1 e.2.2).2.1 (zT e.2.1 e.2.2).2.2.1 ∈ gt := List.forall_mem_cons.mpr ⟨(mt1 81 rfl rfl), List.forall_mem_cons.mpr ⟨(mt1 85 rfl rfl), List.forall_mem_cons.mpr ⟨(mt1 92 rfl rfl), List.forall_mem_cons.mpr ⟨(mt1 99 rfl rfl), List.forall_mem_cons.mpr ⟨(mt1 103 rfl rfl), List.forall_mem_cons.mpr ⟨(mt1 105 rfl rfl), List.forall_mem_cons.mpr ⟨(mt1 108 rfl rfl), List.forall_mem_cons.mpr ⟨(mt1 111 rfl rfl), List.forall_mem_cons.mpr ⟨(mt1 114 rfl rfl), List.forall_mem_cons.mpr ⟨(mt1 52 rfl rfl), fun _ h => absurd h List.not_mem_nil⟩⟩⟩⟩⟩⟩⟩⟩⟩⟩
set_option maxRecDepth 100000 in
theorem flk_3 : ∀ e ∈ flL 3, Cond.fieldLink (zC 3) e.1 (zT e.2.1 e.2.2).1 (zT e.2.1 e.2.2).2.1 (zT e.2.1 e.2.2).2.2.1 ∈ gt := List.forall_mem_cons.mpr ⟨(mt3 32 rfl rfl), List.forall_mem_cons.mpr ⟨(mt3 34 rfl rfl), List.forall_mem_cons.mpr ⟨(mt3 36 rfl rfl), fun _ h => absurd h List.not_mem_nil⟩⟩⟩
set_option maxRecDepth 100000 in
theorem flk_4 : ∀ e ∈ flL 4, Cond.fieldLink (zC 4) e.1 (zT e.2.1 e.2.2).1 (zT e.2.1 e.2.2).2.1 (zT e.2.1 e.2.2).2.2.1 ∈ gt := List.forall_mem_cons.mpr ⟨(mt1 155 rfl rfl), List.forall_mem_cons.mpr ⟨(mt1 156 rfl rfl), List.forall_mem_cons.mpr ⟨(mt1 157 rfl rfl), List.forall_mem_cons.mpr ⟨(mt1 158 rfl rfl), List.forall_mem_cons.mpr ⟨(mt1 46 rfl rfl), List.forall_mem_cons.mpr ⟨(mt1 54 rfl rfl), fun _ h => absurd h List.not_mem_nil⟩⟩⟩⟩⟩⟩
set_option maxRecDepth 100000 in
theorem flk_5 : ∀ e ∈ flL 5, Cond.fieldLink (zC 5) e.1 (zT e.2.1 e.2.2).1 (zT e.2.1 e.2.2).2.1 (zT e.2.1 e.2.2).2.2.1 ∈ gt := List.forall_mem_cons.mpr ⟨(mt1 215 rfl rfl), List.forall_mem_cons.mpr ⟨(mt1 220 rfl rfl), List.forall_mem_cons.mpr ⟨(mt1 222 rfl rfl), List.forall_mem_cons.mpr ⟨(mt1 182 rfl rfl), List.forall_mem_cons.mpr ⟨(mt1 178 rfl rfl), List.forall_mem_cons.mpr ⟨(mt1 189 rfl rfl), List.forall_mem_cons.mpr ⟨(mt1 106 rfl rfl), List.forall_mem_cons.mpr ⟨(mt1 191 rfl rfl), List.forall_mem_cons.mpr ⟨(mt1 91 rfl rfl), List.forall_mem_cons.mpr ⟨(mt1 194 rfl rfl), List.forall_mem_cons.mpr ⟨(mt1 116 rfl rfl), List.forall_mem_cons.mpr ⟨(mt1 110 rfl rfl), List.forall_mem_cons.mpr ⟨(mt1 98 rfl rfl), List.forall_mem_cons.mpr ⟨(mt1 113 rfl rfl), List.forall_mem_cons.mpr ⟨(mt1 102 rfl rfl), List.forall_mem_cons.mpr ⟨(mt1 84 rfl rfl), List.forall_mem_cons.mpr ⟨(mt1 187 rfl rfl), List.forall_mem_cons.mpr ⟨(mt1 176 rfl rfl), List.forall_mem_cons.mpr ⟨(mt1 197 rfl rfl), fun _ h => absurd h List.not_mem_nil⟩⟩⟩⟩⟩⟩⟩⟩⟩⟩⟩⟩⟩⟩⟩⟩⟩⟩⟩
set_option maxRecDepth 100000 in
theorem flk_6 : ∀ e ∈ flL 6, Cond.fieldLink (zC 6) e.1 (zT e.2.1 e.2.2).1 (zT e.2.1 e.2.2).2.1 (zT e.2.1 e.2.2).2.2.1 ∈ gt := List.forall_mem_cons.mpr ⟨(mt2 33 rfl rfl), List.forall_mem_cons.mpr ⟨(mt2 34 rfl rfl), List.forall_mem_cons.mpr ⟨(mt2 36 rfl rfl), List.forall_mem_cons.mpr ⟨(mt2 37 rfl rfl), List.forall_mem_cons.mpr ⟨(mt3 33 rfl rfl), List.forall_mem_cons.mpr ⟨(mt3 35 rfl rfl), List.forall_mem_cons.mpr ⟨(mt3 37 rfl rfl), fun _ h => absurd h List.not_mem_nil⟩⟩⟩⟩⟩⟩⟩
set_option maxRecDepth 100000 in
theorem flk_7 : ∀ e ∈ flL 7, Cond.fieldLink (zC 7) e.1 (zT e.2.1 e.2.2).1 (zT e.2.1 e.2.2).2.1 (zT e.2.1 e.2.2).2.2.1 ∈ gt := List.forall_mem_cons.mpr ⟨(mt1 41 rfl rfl), List.forall_mem_cons.mpr ⟨(mt1 43 rfl rfl), List.forall_mem_cons.mpr ⟨(mt1 44 rfl rfl), List.forall_mem_cons.mpr ⟨(mt1 47 rfl rfl), List.forall_mem_cons.mpr ⟨(mt1 49 rfl rfl), List.forall_mem_cons.mpr ⟨(mt1 51 rfl rfl), fun _ h => absurd h List.not_mem_nil⟩⟩⟩⟩⟩⟩
set_option maxRecDepth 100000 in
theorem flk_8 : ∀ e ∈ flL 8, Cond.fieldLink (zC 8) e.1 (zT e.2.1 e.2.2).1 (zT e.2.1 e.2.2).2.1 (zT e.2.1 e.2.2).2.2.1 ∈ gt := List.forall_mem_cons.mpr ⟨(mt2 54 rfl rfl), List.forall_mem_cons.mpr ⟨(mt2 55 rfl rfl), List.forall_mem_cons.mpr ⟨(mt2 56 rfl rfl), List.forall_mem_cons.mpr ⟨(mt2 57 rfl rfl), List.forall_mem_cons.mpr ⟨(mt1 216 rfl rfl), List.forall_mem_cons.mpr ⟨(mt1 86 rfl rfl), List.forall_mem_cons.mpr ⟨(mt1 100 rfl rfl), List.forall_mem_cons.mpr ⟨(mt1 224 rfl rfl), List.forall_mem_cons.mpr ⟨(mt1 183 rfl rfl), List.forall_mem_cons.mpr ⟨(mt1 96 rfl rfl), List.forall_mem_cons.mpr ⟨(mt1 179 rfl rfl), fun _ h => absurd h List.not_mem_nil⟩⟩⟩⟩⟩⟩⟩⟩⟩⟩⟩
set_option maxRecDepth 100000 in
theorem flk_9 : ∀ e ∈ flL 9, Cond.fieldLink (zC 9) e.1 (zT e.2.1 e.2.2).1 (zT e.2.1 e.2.2).2.1 (zT e.2.1 e.2.2).2.2.1 ∈ gt := List.forall_mem_cons.mpr ⟨(mt2 74 rfl rfl), List.forall_mem_cons.mpr ⟨(mt1 217 rfl rfl), List.forall_mem_cons.mpr ⟨(mt1 87 rfl rfl), List.forall_mem_cons.mpr ⟨(mt1 93 rfl rfl), fun _ h => absurd h List.not_mem_nil⟩⟩⟩⟩
set_option maxRecDepth 100000 in
theorem flk_10 : ∀ e ∈ flL 10, Cond.fieldLink (zC 10) e.1 (zT e.2.1 e.2.2).1 (zT e.2.1 e.2.2).2.1 (zT e.2.1 e.2.2).2.2.1 ∈ gt := List.forall_mem_cons.mpr ⟨(mt1 238 rfl rfl), List.forall_mem_cons.mpr ⟨(mt1 239 rfl rfl), List.forall_mem_cons.mpr ⟨(mt2 0 rfl rfl), List.forall_mem_cons.mpr ⟨(mt2 1 rfl rfl), List.forall_mem_cons.mpr ⟨(mt2 3 rfl rfl), List.forall_mem_cons.mpr ⟨(mt2 4 rfl rfl), List.forall_mem_cons.mpr ⟨(mt2 6 rfl rfl), List.forall_mem_cons.mpr ⟨(mt1 89 rfl rfl), List.forall_mem_cons.mpr ⟨(mt1 94 rfl rfl), List.forall_mem_cons.mpr ⟨(mt1 82 rfl rfl), List.forall_mem_cons.mpr ⟨(mt1 53 rfl rfl), fun _ h => absurd h List.not_mem_nil⟩⟩⟩⟩⟩⟩⟩⟩⟩⟩⟩
set_option maxRecDepth 100000 in
theorem flk_11 : ∀ e ∈ flL 11, Cond.fieldLink (zC 11) e.1 (zT e.2.1 e.2.2).1 (zT e.2.1 e.2.2).2.1 (zT e.2.1 e.2.2).2.2.1 ∈ gt := List.forall_mem_cons.mpr ⟨(mt2 109 rfl rfl), List.forall_mem_cons.mpr ⟨(mt2 110 rfl rfl), List.forall_mem_cons.mpr ⟨(mt2 111 rfl rfl), List.forall_mem_cons.mpr ⟨(mt2 112 rfl rfl), List.forall_mem_cons.mpr ⟨(mt2 113 rfl rfl), List.forall_mem_cons.mpr ⟨(mt2 114 rfl rfl), List.forall_mem_cons.mpr ⟨(mt2 115 rfl rfl), List.forall_mem_cons.mpr ⟨(mt2 116 rfl rfl), List.forall_mem_cons.mpr ⟨(mt2 117 rfl rfl), List.forall_mem_cons.mpr ⟨(mt2 118 rfl rfl), List.forall_mem_cons.mpr ⟨(mt2 119 rfl rfl), List.forall_mem_cons.mpr ⟨(mt2 120 rfl rfl), List.forall_mem_cons.mpr ⟨(mt2 121 rfl rfl), List.forall_mem_cons.mpr ⟨(mt2 122 rfl rfl), List.forall_mem_cons.mpr ⟨(mt2 123 rfl rfl), List.forall_mem_cons.mpr ⟨(mt1 88 rfl rfl), List.forall_mem_cons.mpr ⟨(mt1 221 rfl rfl), List.forall_mem_cons.mpr ⟨(mt1 219 rfl rfl), List.forall_mem_cons.mpr ⟨(mt1 223 rfl rfl), List.forall_mem_cons.mpr ⟨(mt2 2 rfl rfl), List.forall_mem_cons.mpr ⟨(mt2 7 rfl rfl), List.forall_mem_cons.mpr ⟨(mt2 5 rfl rfl), List.forall_mem_cons.mpr ⟨(mt2 88 rfl rfl), List.forall_mem_cons.mpr ⟨(mt1 83 rfl rfl), List.forall_mem_cons.mpr ⟨(mt1 97 rfl rfl), List.forall_mem_cons.mpr ⟨(mt1 175 rfl rfl), List.forall_mem_cons.mpr ⟨(mt1 180 rfl rfl), List.forall_mem_cons.mpr ⟨(mt1 184 rfl rfl), List.forall_mem_cons.mpr ⟨(mt1 186 rfl rfl), List.forall_mem_cons.mpr ⟨(mt1 101 rfl rfl), List.forall_mem_cons.mpr ⟨(mt1 107 rfl rfl), List.forall_mem_cons.mpr ⟨(mt1 109 rfl rfl), List.forall_mem_cons.mpr ⟨(mt1 192 rfl rfl), List.forall_mem_cons.mpr ⟨(mt1 195 rfl rfl), List.forall_mem_cons.mpr ⟨(mt1 112 rfl rfl), List.forall_mem_cons.mpr ⟨(mt1 115 rfl rfl), List.forall_mem_cons.mpr ⟨(mt2 38 rfl rfl), List.forall_mem_cons.mpr ⟨(mt2 35 rfl rfl), List.forall_mem_cons.mpr ⟨(mt1 42 rfl rfl), List.forall_mem_cons.mpr ⟨(mt1 50 rfl rfl), List.forall_mem_cons.mpr ⟨(mt1 48 rfl rfl), fun _ h => absurd h List.not_mem_nil⟩⟩⟩⟩⟩⟩⟩⟩⟩⟩⟩⟩⟩⟩⟩⟩⟩⟩⟩⟩⟩⟩⟩⟩⟩⟩⟩⟩⟩⟩⟩⟩⟩⟩⟩⟩⟩⟩⟩⟩⟩
set_option maxRecDepth 100000 in
theorem flk_12 : ∀ e ∈ flL 12, Cond.fieldLink (zC 12) e.1 (zT e.2.1 e.2.2).1 (zT e.2.1 e.2.2).2.1 (zT e.2.1 e.2.2).2.2.1 ∈ gt := List.forall_mem_cons.mpr ⟨(mt6 204 rfl rfl), List.forall_mem_cons.mpr ⟨(mt6 205 rfl rfl), List.forall_mem_cons.mpr ⟨(mt6 212 rfl rfl), List.forall_mem_cons.mpr ⟨(mt6 213 rfl rfl), List.forall_mem_cons.mpr ⟨(mt6 214 rfl rfl), List.forall_mem_cons.mpr ⟨(mt6 215 rfl rfl), List.forall_mem_cons.mpr ⟨(mt6 216 rfl rfl), List.forall_mem_cons.mpr ⟨(mt6 217 rfl rfl), List.forall_mem_cons.mpr ⟨(mt6 226 rfl rfl), List.forall_mem_cons.mpr ⟨(mt6 227 rfl rfl), List.forall_mem_cons.mpr ⟨(mt6 228 rfl rfl), List.forall_mem_cons.mpr ⟨(mt6 229 rfl rfl), List.forall_mem_cons.mpr ⟨(mt6 230 rfl rfl), List.forall_mem_cons.mpr ⟨(mt6 233 rfl rfl), List.forall_mem_cons.mpr ⟨(mt6 234 rfl rfl), List.forall_mem_cons.mpr ⟨(mt6 235 rfl rfl), List.forall_mem_cons.mpr ⟨(mt7 2 rfl rfl), List.forall_mem_cons.mpr ⟨(mt7 3 rfl rfl), List.forall_mem_cons.mpr ⟨(mt7 4 rfl rfl), List.forall_mem_cons.mpr ⟨(mt7 5 rfl rfl), List.forall_mem_cons.mpr ⟨(mt7 6 rfl rfl), List.forall_mem_cons.mpr ⟨(mt7 8 rfl rfl), List.forall_mem_cons.mpr ⟨(mt7 9 rfl rfl), List.forall_mem_cons.mpr ⟨(mt7 10 rfl rfl), List.forall_mem_cons.mpr ⟨(mt7 11 rfl rfl), List.forall_mem_cons.mpr ⟨(mt7 13 rfl rfl), List.forall_mem_cons.mpr ⟨(mt6 206 rfl rfl), List.forall_mem_cons.mpr ⟨(mt6 209 rfl rfl), List.forall_mem_cons.mpr ⟨(mt6 210 rfl rfl), List.forall_mem_cons.mpr ⟨(mt6 208 rfl rfl), List.forall_mem_cons.mpr ⟨(mt6 207 rfl rfl), List.forall_mem_cons.mpr ⟨(mt6 211 rfl rfl), List.forall_mem_cons.mpr ⟨(mt6 218 rfl rfl), List.forall_mem_cons.mpr ⟨(mt6 219 rfl rfl), List.forall_mem_cons.mpr ⟨(mt6 220 rfl rfl), List.forall_mem_cons.mpr ⟨(mt6 221 rfl rfl), List.forall_mem_cons.mpr ⟨(mt6 222 rfl rfl), List.forall_mem_cons.mpr ⟨(mt6 223 rfl rfl), List.forall_mem_cons.mpr ⟨(mt6 224 rfl rfl), List.forall_mem_cons.mpr ⟨(mt6 225 rfl rfl), List.forall_mem_cons.mpr ⟨(mt6 232 rfl rfl), List.forall_mem_cons.mpr ⟨(mt7 7 rfl rfl), List.forall_mem_cons.mpr ⟨(mt6 237 rfl rfl), List.forall_mem_cons.mpr ⟨(mt7 14 rfl rfl), List.forall_mem_cons.mpr ⟨(mt6 238 rfl rfl), List.forall_mem_cons.mpr ⟨(mt6 231 rfl rfl), List.forall_mem_cons.mpr ⟨(mt6 236 rfl rfl), List.forall_mem_cons.mpr ⟨(mt6 239 rfl rfl), List.forall_mem_cons.mpr ⟨(mt7 0 rfl rfl), List.forall_mem_cons.mpr ⟨(mt7 1 rfl rfl), List.forall_mem_cons.mpr ⟨(mt7 12 rfl rfl), fun _ h => absurd h List.not_mem_nil⟩⟩⟩⟩⟩⟩⟩⟩⟩⟩⟩⟩⟩⟩⟩⟩⟩⟩⟩⟩⟩⟩⟩⟩⟩⟩⟩⟩⟩⟩⟩⟩⟩⟩⟩⟩⟩⟩⟩⟩⟩⟩⟩⟩⟩⟩⟩⟩⟩⟩⟩
theorem fl_ok {o idx : Nat} {v : _} (h : fl o idx = some v) : (fun (o : Nat) (e : Nat × _) => Cond.fieldLink (zC o) e.1 (zT e.2.1 e.2.2).1 (zT e.2.1 e.2.2).2.1 (zT e.2.1 e.2.2).2.2.1 ∈ gt) o (idx, v) := by
  have hm := look_mem h
  unfold flL at hm
  split at hm
  · exact flk_0 _ hm
  · exact flk_1 _ hm
  · exact flk_2 _ hm
  · exact flk_3 _ hm
  · exact flk_4 _ hm
  · exact flk_5 _ hm
  · exact flk_6 _ hm
  · exact flk_7 _ hm
  · exact flk_8 _ hm
  · exact flk_9 _ hm
  · exact flk_10 _ hm
  · exact flk_11 _ hm
  · exact flk_12 _ hm
  · cases hm
set_option maxRecDepth 100000 in
theorem klk_3 : ∀ e ∈ klL 3, Cond.classLink (zC 3) e.1 (zC e.2) ∈ gt := List.forall_mem_cons.mpr ⟨(mt3 30 rfl rfl), fun _ h => absurd h List.not_mem_nil⟩
set_option maxRecDepth 100000 in
theorem klk_5 : ∀ e ∈ klL 5, Cond.classLink (zC 5) e.1 (zC e.2) ∈ gt := List.forall_mem_cons.mpr ⟨(mt1 75 rfl rfl), List.forall_mem_cons.mpr ⟨(mt1 137 rfl rfl), List.forall_mem_cons.mpr ⟨(mt1 168 rfl rfl), fun _ h => absurd h List.not_mem_nil⟩⟩⟩
set_option maxRecDepth 100000 in
theorem klk_6 : ∀ e ∈ klL 6, Cond.classLink (zC 6) e.1 (zC e.2) ∈ gt := List.forall_mem_cons.mpr ⟨(mt2 29 rfl rfl), List.forall_mem_cons.mpr ⟨(mt2 31 rfl rfl), fun _ h => absurd h List.not_mem_nil⟩⟩
set_option maxRecDepth 100000 in
theorem klk_11 : ∀ e ∈ klL 11, Cond.classLink (zC 11) e.1 (zC e.2) ∈ gt := List.forall_mem_cons.mpr ⟨(mt1 35 rfl rfl), List.forall_mem_cons.mpr ⟨(mt1 69 rfl rfl), List.forall_mem_cons.mpr ⟨(mt1 232 rfl rfl), List.forall_mem_cons.mpr ⟨(mt2 23 rfl rfl), List.forall_mem_cons.mpr ⟨(mt2 48 rfl rfl), List.forall_mem_cons.mpr ⟨(mt2 68 rfl rfl), List.forall_mem_cons.mpr ⟨(mt2 78 rfl rfl), List.forall_mem_cons.mpr ⟨(mt2 80 rfl rfl), List.forall_mem_cons.mpr ⟨(mt3 154 rfl rfl), fun _ h => absurd h List.not_mem_nil⟩⟩⟩⟩⟩⟩⟩⟩⟩
set_option maxRecDepth 100000 in
theorem klk_13 : ∀ e ∈ klL 13, Cond.classLink (zC 13) e.1 (zC e.2) ∈ gt := List.forall_mem_cons.mpr ⟨(mt1 27 rfl rfl), List.forall_mem_cons.mpr ⟨(mt6 186 rfl rfl), fun _ h => absurd h List.not_mem_nil⟩⟩
theorem kl_ok {o idx : Nat} {v : _} (h : kl o idx = some v) : (fun (o : Nat) (e : Nat × _) => Cond.classLink (zC o) e.1 (zC e.2) ∈ gt) o (idx, v) := by
  have hm := look_mem h
  unfold klL at hm
  split at hm
  · exact klk_3 _ hm
  · exact klk_5 _ hm
  · exact klk_6 _ hm
  · exact klk_11 _ hm
  · exact klk_13 _ hm
  · cases hm
def aCn (e : Nat) : String := if e = 4 then "PraiseLift$Days" else "PraiseLift$Image"
set_option maxRecDepth 100000 in
theorem alk_3 : ∀ e ∈ alL 3, Cond.classLink (zC 3) e.1 (aCn e.2) ∈ gt ∧ (e.2 = 4 ∨ e.2 = 5) := List.forall_mem_cons.mpr ⟨⟨(mt3 30 rfl rfl), by decide⟩, fun _ h => absurd h List.not_mem_nil⟩
set_option maxRecDepth 100000 in
theorem alk_5 : ∀ e ∈ alL 5, Cond.classLink (zC 5) e.1 (aCn e.2) ∈ gt ∧ (e.2 = 4 ∨ e.2 = 5) := List.forall_mem_cons.mpr ⟨⟨(mt1 168 rfl rfl), by decide⟩, fun _ h => absurd h List.not_mem_nil⟩
set_option maxRecDepth 100000 in
theorem alk_6 : ∀ e ∈ alL 6, Cond.classLink (zC 6) e.1 (aCn e.2) ∈ gt ∧ (e.2 = 4 ∨ e.2 = 5) := List.forall_mem_cons.mpr ⟨⟨(mt2 29 rfl rfl), by decide⟩, List.forall_mem_cons.mpr ⟨⟨(mt2 31 rfl rfl), by decide⟩, fun _ h => absurd h List.not_mem_nil⟩⟩
theorem al_ok {o idx : Nat} {v : _} (h : al o idx = some v) : (fun (o : Nat) (e : Nat × _) => Cond.classLink (zC o) e.1 (aCn e.2) ∈ gt ∧ (e.2 = 4 ∨ e.2 = 5)) o (idx, v) := by
  have hm := look_mem h
  unfold alL at hm
  split at hm
  · exact alk_3 _ hm
  · exact alk_5 _ hm
  · exact alk_6 _ hm
  · cases hm
set_option maxRecDepth 100000 in
theorem ilk_7 : ∀ e ∈ ilL 7, Cond.constant (zC 7) e.1 e.2 ∈ gt := List.forall_mem_cons.mpr ⟨(mt4 13 rfl rfl), fun _ h => absurd h List.not_mem_nil⟩
set_option maxRecDepth 100000 in
theorem ilk_9 : ∀ e ∈ ilL 9, Cond.constant (zC 9) e.1 e.2 ∈ gt := List.forall_mem_cons.mpr ⟨(mt6 163 rfl rfl), fun _ h => absurd h List.not_mem_nil⟩
set_option maxRecDepth 100000 in
theorem ilk_12 : ∀ e ∈ ilL 12, Cond.constant (zC 12) e.1 e.2 ∈ gt := List.forall_mem_cons.mpr ⟨(mt9 66 rfl rfl), fun _ h => absurd h List.not_mem_nil⟩
set_option maxRecDepth 100000 in
theorem ilk_15 : ∀ e ∈ ilL 15, Cond.constant (zC 15) e.1 e.2 ∈ gt := List.forall_mem_cons.mpr ⟨(mt2 221 rfl rfl), List.forall_mem_cons.mpr ⟨(mt2 222 rfl rfl), List.forall_mem_cons.mpr ⟨(mt2 223 rfl rfl), fun _ h => absurd h List.not_mem_nil⟩⟩⟩
theorem il_ok {o idx : Nat} {v : _} (h : il o idx = some v) : (fun (o : Nat) (e : Nat × _) => Cond.constant (zC o) e.1 e.2 ∈ gt) o (idx, v) := by
  have hm := look_mem h
  unfold ilL at hm
  split at hm
  · exact ilk_7 _ hm
  · exact ilk_9 _ hm
  · exact ilk_12 _ hm
  · exact ilk_15 _ hm
  · cases hm
set_option maxRecDepth 100000 in
theorem llk_11 : ∀ e ∈ llL 11, Cond.constantLong (zC 11) e.1 e.2 ∈ gt := List.forall_mem_cons.mpr ⟨(mt6 38 rfl rfl), fun _ h => absurd h List.not_mem_nil⟩
set_option maxRecDepth 100000 in
theorem llk_12 : ∀ e ∈ llL 12, Cond.constantLong (zC 12) e.1 e.2 ∈ gt := List.forall_mem_cons.mpr ⟨(mt8 224 rfl rfl), fun _ h => absurd h List.not_mem_nil⟩
theorem ll_ok {o idx : Nat} {v : _} (h : ll o idx = some v) : (fun (o : Nat) (e : Nat × _) => Cond.constantLong (zC o) e.1 e.2 ∈ gt) o (idx, v) := by
  have hm := look_mem h
  unfold llL at hm
  split at hm
  · exact llk_11 _ hm
  · exact llk_12 _ hm
  · cases hm
theorem ma_min : Cond.static Lib.Math.min.name ∈ gt ∧ Cond.code Lib.Math.min.name Lib.Math.min.code 2 (some .int) ∈ gt := ⟨(mt2 183 rfl rfl), (mt2 184 rfl rfl)⟩
theorem ma_max : Cond.static Lib.Math.max.name ∈ gt ∧ Cond.code Lib.Math.max.name Lib.Math.max.code 2 (some .int) ∈ gt := ⟨(mt2 225 rfl rfl), (mt2 226 rfl rfl)⟩
theorem ma_abs : Cond.static Lib.Math.abs.name ∈ gt ∧ Cond.code Lib.Math.abs.name Lib.Math.abs.code 1 (some .int) ∈ gt := ⟨(mt4 219 rfl rfl), (mt4 220 rfl rfl)⟩
theorem ma_init : Cond.initialized "java/lang/Math" ∈ gt := (mt1 13 rfl rfl)
theorem ac_ok : Cond.native arraycopyName ∈ gt ∧ Cond.static arraycopyName ∈ gt ∧ Cond.initialized "java/lang/System" ∈ gt := ⟨(mt2 187 rfl rfl), (mt2 186 rfl rfl), (mt1 22 rfl rfl)⟩
theorem oi_ok : Cond.instanceMethod objectInit ∈ gt ∧ Cond.code objectInit ⟨#[0xb1]⟩ 1 none ∈ gt := ⟨(mt1 33 rfl rfl), (mt1 34 rfl rfl)⟩
theorem ac_byte : Cond.arrayClass .byte ∈ gt := (mt1 68 rfl rfl)
theorem ac_int : Cond.arrayClass .int ∈ gt := (mt1 136 rfl rfl)
theorem ac_long : Cond.arrayClass .long ∈ gt := (mt2 67 rfl rfl)
def cw (m : MM) : Cond := if zh m = [] then .code (zy m) (zb m) (zl m) (zr m) else .codeWith (zy m) (zb m) (zl m) (zr m) (zh m)
def mOK (m : MM) (np : Nat) : Prop := cw m ∈ gt ∧ Cond.initialized (zy m).cls ∈ gt ∧ plainName (zy m).cls = true ∧ ((zy m).cls ≠ "java/lang/invoke/MethodHandle" ∧ (zy m).cls ≠ "java/lang/invoke/VarHandle" ∧ (parseMethodDescriptor (zy m).desc).map (fun d => d.parameters.length) = some np) ∧ (zy m).cls = zC (zo m) ∧ (zi m = true → (zy m).name = "<init>") ∧ zl m ≤ 21 ∧ (zh m ≠ [] → zo m = 13)
theorem km_Book_init : mOK m_Book_init 0 := ⟨(mt2 84 rfl rfl), (mt1 11 rfl rfl), by decide +kernel, ⟨by decide +kernel, by decide +kernel, by decide +kernel⟩, rfl, fun _ => rfl, by decide, fun h => absurd rfl h⟩
theorem km_Book_wipe : mOK m_Book_wipe 0 := ⟨(mt4 43 rfl rfl), (mt1 11 rfl rfl), by decide +kernel, ⟨by decide +kernel, by decide +kernel, by decide +kernel⟩, rfl, fun _ => by contradiction, by decide, fun h => absurd rfl h⟩
theorem km_Book_readLines : mOK m_Book_readLines 2 := ⟨(mt5 15 rfl rfl), (mt1 11 rfl rfl), by decide +kernel, ⟨by decide +kernel, by decide +kernel, by decide +kernel⟩, rfl, fun _ => by contradiction, by decide, fun h => absurd rfl h⟩
theorem km_Book_hasLine : mOK m_Book_hasLine 1 := ⟨(mt5 23 rfl rfl), (mt1 11 rfl rfl), by decide +kernel, ⟨by decide +kernel, by decide +kernel, by decide +kernel⟩, rfl, fun _ => by contradiction, by decide, fun h => absurd rfl h⟩
theorem km_Book_findPairs : mOK m_Book_findPairs 1 := ⟨(mt5 220 rfl rfl), (mt1 11 rfl rfl), by decide +kernel, ⟨by decide +kernel, by decide +kernel, by decide +kernel⟩, rfl, fun _ => by contradiction, by decide, fun h => absurd rfl h⟩
theorem km_Book_areOthersRight : mOK m_Book_areOthersRight 2 := ⟨(mt5 224 rfl rfl), (mt1 11 rfl rfl), by decide +kernel, ⟨by decide +kernel, by decide +kernel, by decide +kernel⟩, rfl, fun _ => by contradiction, by decide, fun h => absurd rfl h⟩
theorem km_Book_keepPair : mOK m_Book_keepPair 3 := ⟨(mt5 234 rfl rfl), (mt1 11 rfl rfl), by decide +kernel, ⟨by decide +kernel, by decide +kernel, by decide +kernel⟩, rfl, fun _ => by contradiction, by decide, fun h => absurd rfl h⟩
theorem km_Book_firstPair : mOK m_Book_firstPair 0 := ⟨(mt5 238 rfl rfl), (mt1 11 rfl rfl), by decide +kernel, ⟨by decide +kernel, by decide +kernel, by decide +kernel⟩, rfl, fun _ => by contradiction, by decide, fun h => absurd rfl h⟩
theorem km_Book_leftAtWorst : mOK m_Book_leftAtWorst 2 := ⟨(mt6 10 rfl rfl), (mt1 11 rfl rfl), by decide +kernel, ⟨by decide +kernel, by decide +kernel, by decide +kernel⟩, rfl, fun _ => by contradiction, by decide, fun h => absurd rfl h⟩
theorem km_Book_heavyByPair : mOK m_Book_heavyByPair 3 := ⟨(mt6 14 rfl rfl), (mt1 11 rfl rfl), by decide +kernel, ⟨by decide +kernel, by decide +kernel, by decide +kernel⟩, rfl, fun _ => by contradiction, by decide, fun h => absurd rfl h⟩
theorem km_Days_init : mOK m_Days_init 0 := ⟨(mt1 172 rfl rfl), (mt1 6 rfl rfl), by decide +kernel, ⟨by decide +kernel, by decide +kernel, by decide +kernel⟩, rfl, fun _ => rfl, by decide, fun h => absurd rfl h⟩
theorem km_Days_takeFrom : mOK m_Days_takeFrom 1 := ⟨(mt2 178 rfl rfl), (mt1 6 rfl rfl), by decide +kernel, ⟨by decide +kernel, by decide +kernel, by decide +kernel⟩, rfl, fun _ => by contradiction, by decide, fun h => absurd rfl h⟩
theorem km_Days_beginIn : mOK m_Days_beginIn 1 := ⟨(mt4 36 rfl rfl), (mt1 6 rfl rfl), by decide +kernel, ⟨by decide +kernel, by decide +kernel, by decide +kernel⟩, rfl, fun _ => by contradiction, by decide, fun h => absurd rfl h⟩
theorem km_Days_timesHeard : mOK m_Days_timesHeard 2 := ⟨(mt4 164 rfl rfl), (mt1 6 rfl rfl), by decide +kernel, ⟨by decide +kernel, by decide +kernel, by decide +kernel⟩, rfl, fun _ => by contradiction, by decide, fun h => absurd rfl h⟩
theorem km_Days_hearOnceMore : mOK m_Days_hearOnceMore 2 := ⟨(mt4 198 rfl rfl), (mt1 6 rfl rfl), by decide +kernel, ⟨by decide +kernel, by decide +kernel, by decide +kernel⟩, rfl, fun _ => by contradiction, by decide, fun h => absurd rfl h⟩
theorem km_House_init : mOK m_House_init 0 := ⟨(mt1 79 rfl rfl), (mt1 4 rfl rfl), by decide +kernel, ⟨by decide +kernel, by decide +kernel, by decide +kernel⟩, rfl, fun _ => rfl, by decide, fun h => absurd rfl h⟩
theorem km_House_readClauses : mOK m_House_readClauses 1 := ⟨(mt3 159 rfl rfl), (mt1 4 rfl rfl), by decide +kernel, ⟨by decide +kernel, by decide +kernel, by decide +kernel⟩, rfl, fun _ => by contradiction, by decide, fun h => absurd rfl h⟩
theorem km_House_readClause : mOK m_House_readClause 2 := ⟨(mt4 1 rfl rfl), (mt1 4 rfl rfl), by decide +kernel, ⟨by decide +kernel, by decide +kernel, by decide +kernel⟩, rfl, fun _ => by contradiction, by decide, fun h => absurd rfl h⟩
theorem km_House_readFloors : mOK m_House_readFloors 1 := ⟨(mt4 5 rfl rfl), (mt1 4 rfl rfl), by decide +kernel, ⟨by decide +kernel, by decide +kernel, by decide +kernel⟩, rfl, fun _ => by contradiction, by decide, fun h => absurd rfl h⟩
theorem km_House_readMan : mOK m_House_readMan 1 := ⟨(mt4 17 rfl rfl), (mt1 4 rfl rfl), by decide +kernel, ⟨by decide +kernel, by decide +kernel, by decide +kernel⟩, rfl, fun _ => by contradiction, by decide, fun h => absurd rfl h⟩
theorem km_House_readCard : mOK m_House_readCard 1 := ⟨(mt4 22 rfl rfl), (mt1 4 rfl rfl), by decide +kernel, ⟨by decide +kernel, by decide +kernel, by decide +kernel⟩, rfl, fun _ => by contradiction, by decide, fun h => absurd rfl h⟩
theorem km_Image_init : mOK m_Image_init 1 := ⟨(mt3 28 rfl rfl), (mt1 26 rfl rfl), by decide +kernel, ⟨by decide +kernel, by decide +kernel, by decide +kernel⟩, rfl, fun _ => rfl, by decide, fun h => absurd rfl h⟩
theorem km_Law_init : mOK m_Law_init 0 := ⟨(mt1 141 rfl rfl), (mt1 5 rfl rfl), by decide +kernel, ⟨by decide +kernel, by decide +kernel, by decide +kernel⟩, rfl, fun _ => rfl, by decide, fun h => absurd rfl h⟩
theorem km_Law_setUsual : mOK m_Law_setUsual 0 := ⟨(mt1 146 rfl rfl), (mt1 5 rfl rfl), by decide +kernel, ⟨by decide +kernel, by decide +kernel, by decide +kernel⟩, rfl, fun _ => by contradiction, by decide, fun h => absurd rfl h⟩
theorem km_Law_wipe : mOK m_Law_wipe 0 := ⟨(mt1 150 rfl rfl), (mt1 5 rfl rfl), by decide +kernel, ⟨by decide +kernel, by decide +kernel, by decide +kernel⟩, rfl, fun _ => by contradiction, by decide, fun h => absurd rfl h⟩
theorem km_Law_putCode : mOK m_Law_putCode 1 := ⟨(mt1 154 rfl rfl), (mt1 5 rfl rfl), by decide +kernel, ⟨by decide +kernel, by decide +kernel, by decide +kernel⟩, rfl, fun _ => by contradiction, by decide, fun h => absurd rfl h⟩
theorem km_Law_readSum : mOK m_Law_readSum 2 := ⟨(mt4 63 rfl rfl), (mt1 5 rfl rfl), by decide +kernel, ⟨by decide +kernel, by decide +kernel, by decide +kernel⟩, rfl, fun _ => by contradiction, by decide, fun h => absurd rfl h⟩
theorem km_Law_readProduct : mOK m_Law_readProduct 2 := ⟨(mt4 67 rfl rfl), (mt1 5 rfl rfl), by decide +kernel, ⟨by decide +kernel, by decide +kernel, by decide +kernel⟩, rfl, fun _ => by contradiction, by decide, fun h => absurd rfl h⟩
theorem km_Law_readUnit : mOK m_Law_readUnit 2 := ⟨(mt4 71 rfl rfl), (mt1 5 rfl rfl), by decide +kernel, ⟨by decide +kernel, by decide +kernel, by decide +kernel⟩, rfl, fun _ => by contradiction, by decide, fun h => absurd rfl h⟩
theorem km_Law_readBracket : mOK m_Law_readBracket 2 := ⟨(mt4 76 rfl rfl), (mt1 5 rfl rfl), by decide +kernel, ⟨by decide +kernel, by decide +kernel, by decide +kernel⟩, rfl, fun _ => by contradiction, by decide, fun h => absurd rfl h⟩
theorem km_Law_readChoice : mOK m_Law_readChoice 3 := ⟨(mt4 87 rfl rfl), (mt1 5 rfl rfl), by decide +kernel, ⟨by decide +kernel, by decide +kernel, by decide +kernel⟩, rfl, fun _ => by contradiction, by decide, fun h => absurd rfl h⟩
theorem km_Law_tellWords : mOK m_Law_tellWords 3 := ⟨(mt4 173 rfl rfl), (mt1 5 rfl rfl), by decide +kernel, ⟨by decide +kernel, by decide +kernel, by decide +kernel⟩, rfl, fun _ => by contradiction, by decide, fun h => absurd rfl h⟩
theorem km_Law_tellMan : mOK m_Law_tellMan 3 := ⟨(mt4 178 rfl rfl), (mt1 5 rfl rfl), by decide +kernel, ⟨by decide +kernel, by decide +kernel, by decide +kernel⟩, rfl, fun _ => by contradiction, by decide, fun h => absurd rfl h⟩
theorem km_Law_tellWhere : mOK m_Law_tellWhere 3 := ⟨(mt4 183 rfl rfl), (mt1 5 rfl rfl), by decide +kernel, ⟨by decide +kernel, by decide +kernel, by decide +kernel⟩, rfl, fun _ => by contradiction, by decide, fun h => absurd rfl h⟩
theorem km_Law_swellByFacts : mOK m_Law_swellByFacts 0 := ⟨(mt4 187 rfl rfl), (mt1 5 rfl rfl), by decide +kernel, ⟨by decide +kernel, by decide +kernel, by decide +kernel⟩, rfl, fun _ => by contradiction, by decide, fun h => absurd rfl h⟩
theorem km_Law_join : mOK m_Law_join 3 := ⟨(mt4 191 rfl rfl), (mt1 5 rfl rfl), by decide +kernel, ⟨by decide +kernel, by decide +kernel, by decide +kernel⟩, rfl, fun _ => by contradiction, by decide, fun h => absurd rfl h⟩
theorem km_Lift_init : mOK m_Lift_init 0 := ⟨(mt1 73 rfl rfl), (mt1 3 rfl rfl), by decide +kernel, ⟨by decide +kernel, by decide +kernel, by decide +kernel⟩, rfl, fun _ => rfl, by decide, fun h => absurd rfl h⟩
theorem km_Lift_heavyOfSet : mOK m_Lift_heavyOfSet 1 := ⟨(mt2 199 rfl rfl), (mt1 3 rfl rfl), by decide +kernel, ⟨by decide +kernel, by decide +kernel, by decide +kernel⟩, rfl, fun _ => by contradiction, by decide, fun h => absurd rfl h⟩
theorem km_Lift_heavyOf : mOK m_Lift_heavyOf 1 := ⟨(mt2 206 rfl rfl), (mt1 3 rfl rfl), by decide +kernel, ⟨by decide +kernel, by decide +kernel, by decide +kernel⟩, rfl, fun _ => by contradiction, by decide, fun h => absurd rfl h⟩
theorem km_Lift_canEnter : mOK m_Lift_canEnter 1 := ⟨(mt2 234 rfl rfl), (mt1 3 rfl rfl), by decide +kernel, ⟨by decide +kernel, by decide +kernel, by decide +kernel⟩, rfl, fun _ => by contradiction, by decide, fun h => absurd rfl h⟩
theorem km_Lift_isInside : mOK m_Lift_isInside 1 := ⟨(mt2 238 rfl rfl), (mt1 3 rfl rfl), by decide +kernel, ⟨by decide +kernel, by decide +kernel, by decide +kernel⟩, rfl, fun _ => by contradiction, by decide, fun h => absurd rfl h⟩
theorem km_Lift_loadNow : mOK m_Lift_loadNow 0 := ⟨(mt3 7 rfl rfl), (mt1 3 rfl rfl), by decide +kernel, ⟨by decide +kernel, by decide +kernel, by decide +kernel⟩, rfl, fun _ => by contradiction, by decide, fun h => absurd rfl h⟩
theorem km_Lift_placeOf : mOK m_Lift_placeOf 1 := ⟨(mt3 16 rfl rfl), (mt1 3 rfl rfl), by decide +kernel, ⟨by decide +kernel, by decide +kernel, by decide +kernel⟩, rfl, fun _ => by contradiction, by decide, fun h => absurd rfl h⟩
theorem km_Lift_moveInto : mOK m_Lift_moveInto 1 := ⟨(mt4 31 rfl rfl), (mt1 3 rfl rfl), by decide +kernel, ⟨by decide +kernel, by decide +kernel, by decide +kernel⟩, rfl, fun _ => by contradiction, by decide, fun h => absurd rfl h⟩
theorem km_Lift_letIn : mOK m_Lift_letIn 1 := ⟨(mt4 150 rfl rfl), (mt1 3 rfl rfl), by decide +kernel, ⟨by decide +kernel, by decide +kernel, by decide +kernel⟩, rfl, fun _ => by contradiction, by decide, fun h => absurd rfl h⟩
theorem km_Lift_letOut : mOK m_Lift_letOut 1 := ⟨(mt4 155 rfl rfl), (mt1 3 rfl rfl), by decide +kernel, ⟨by decide +kernel, by decide +kernel, by decide +kernel⟩, rfl, fun _ => by contradiction, by decide, fun h => absurd rfl h⟩
theorem km_Lift_sayTo : mOK m_Lift_sayTo 2 := ⟨(mt4 160 rfl rfl), (mt1 3 rfl rfl), by decide +kernel, ⟨by decide +kernel, by decide +kernel, by decide +kernel⟩, rfl, fun _ => by contradiction, by decide, fun h => absurd rfl h⟩
theorem km_Lift_swellOf : mOK m_Lift_swellOf 2 := ⟨(mt4 169 rfl rfl), (mt1 3 rfl rfl), by decide +kernel, ⟨by decide +kernel, by decide +kernel, by decide +kernel⟩, rfl, fun _ => by contradiction, by decide, fun h => absurd rfl h⟩
theorem km_Lift_isLie : mOK m_Lift_isLie 2 := ⟨(mt4 204 rfl rfl), (mt1 3 rfl rfl), by decide +kernel, ⟨by decide +kernel, by decide +kernel, by decide +kernel⟩, rfl, fun _ => by contradiction, by decide, fun h => absurd rfl h⟩
theorem km_Lift_insultOne : mOK m_Lift_insultOne 1 := ⟨(mt4 208 rfl rfl), (mt1 3 rfl rfl), by decide +kernel, ⟨by decide +kernel, by decide +kernel, by decide +kernel⟩, rfl, fun _ => by contradiction, by decide, fun h => absurd rfl h⟩
theorem km_Lift_goOnce : mOK m_Lift_goOnce 0 := ⟨(mt4 212 rfl rfl), (mt1 3 rfl rfl), by decide +kernel, ⟨by decide +kernel, by decide +kernel, by decide +kernel⟩, rfl, fun _ => by contradiction, by decide, fun h => absurd rfl h⟩
theorem km_Lift_goesFrom : mOK m_Lift_goesFrom 2 := ⟨(mt4 217 rfl rfl), (mt1 3 rfl rfl), by decide +kernel, ⟨by decide +kernel, by decide +kernel, by decide +kernel⟩, rfl, fun _ => by contradiction, by decide, fun h => absurd rfl h⟩
theorem km_Lift_walkTo : mOK m_Lift_walkTo 2 := ⟨(mt4 225 rfl rfl), (mt1 3 rfl rfl), by decide +kernel, ⟨by decide +kernel, by decide +kernel, by decide +kernel⟩, rfl, fun _ => by contradiction, by decide, fun h => absurd rfl h⟩
theorem km_Lift_nightFalls : mOK m_Lift_nightFalls 0 := ⟨(mt4 229 rfl rfl), (mt1 3 rfl rfl), by decide +kernel, ⟨by decide +kernel, by decide +kernel, by decide +kernel⟩, rfl, fun _ => by contradiction, by decide, fun h => absurd rfl h⟩
theorem km_Lift_sleep : mOK m_Lift_sleep 0 := ⟨(mt4 233 rfl rfl), (mt1 3 rfl rfl), by decide +kernel, ⟨by decide +kernel, by decide +kernel, by decide +kernel⟩, rfl, fun _ => by contradiction, by decide, fun h => absurd rfl h⟩
theorem km_Lift_halvePrides : mOK m_Lift_halvePrides 0 := ⟨(mt4 237 rfl rfl), (mt1 3 rfl rfl), by decide +kernel, ⟨by decide +kernel, by decide +kernel, by decide +kernel⟩, rfl, fun _ => by contradiction, by decide, fun h => absurd rfl h⟩
theorem km_Lift_levelWith : mOK m_Lift_levelWith 1 := ⟨(mt5 38 rfl rfl), (mt1 3 rfl rfl), by decide +kernel, ⟨by decide +kernel, by decide +kernel, by decide +kernel⟩, rfl, fun _ => by contradiction, by decide, fun h => absurd rfl h⟩
theorem km_Lift_liesTo : mOK m_Lift_liesTo 1 := ⟨(mt5 77 rfl rfl), (mt1 3 rfl rfl), by decide +kernel, ⟨by decide +kernel, by decide +kernel, by decide +kernel⟩, rfl, fun _ => by contradiction, by decide, fun h => absurd rfl h⟩
theorem km_Lift_heardByAll : mOK m_Lift_heardByAll 1 := ⟨(mt5 92 rfl rfl), (mt1 3 rfl rfl), by decide +kernel, ⟨by decide +kernel, by decide +kernel, by decide +kernel⟩, rfl, fun _ => by contradiction, by decide, fun h => absurd rfl h⟩
theorem km_Lift_levelBehindGoes : mOK m_Lift_levelBehindGoes 1 := ⟨(mt5 130 rfl rfl), (mt1 3 rfl rfl), by decide +kernel, ⟨by decide +kernel, by decide +kernel, by decide +kernel⟩, rfl, fun _ => by contradiction, by decide, fun h => absurd rfl h⟩
theorem km_Lift_becomeLike : mOK m_Lift_becomeLike 1 := ⟨(mt5 134 rfl rfl), (mt1 3 rfl rfl), by decide +kernel, ⟨by decide +kernel, by decide +kernel, by decide +kernel⟩, rfl, fun _ => by contradiction, by decide, fun h => absurd rfl h⟩
theorem km_Lift_prideOfAll : mOK m_Lift_prideOfAll 0 := ⟨(mt5 140 rfl rfl), (mt1 3 rfl rfl), by decide +kernel, ⟨by decide +kernel, by decide +kernel, by decide +kernel⟩, rfl, fun _ => by contradiction, by decide, fun h => absurd rfl h⟩
theorem km_Lift_sumOfMen : mOK m_Lift_sumOfMen 1 := ⟨(mt5 144 rfl rfl), (mt1 3 rfl rfl), by decide +kernel, ⟨by decide +kernel, by decide +kernel, by decide +kernel⟩, rfl, fun _ => by contradiction, by decide, fun h => absurd rfl h⟩
theorem km_Lift_walkAllTo : mOK m_Lift_walkAllTo 1 := ⟨(mt5 198 rfl rfl), (mt1 3 rfl rfl), by decide +kernel, ⟨by decide +kernel, by decide +kernel, by decide +kernel⟩, rfl, fun _ => by contradiction, by decide, fun h => absurd rfl h⟩
theorem km_Lift_heavyIfSaid : mOK m_Lift_heavyIfSaid 2 := ⟨(mt5 230 rfl rfl), (mt1 3 rfl rfl), by decide +kernel, ⟨by decide +kernel, by decide +kernel, by decide +kernel⟩, rfl, fun _ => by contradiction, by decide, fun h => absurd rfl h⟩
theorem km_Lift_breathBound : mOK m_Lift_breathBound 2 := ⟨(mt6 67 rfl rfl), (mt1 3 rfl rfl), by decide +kernel, ⟨by decide +kernel, by decide +kernel, by decide +kernel⟩, rfl, fun _ => by contradiction, by decide, fun h => absurd rfl h⟩
theorem km_Lift_givenBy : mOK m_Lift_givenBy 2 := ⟨(mt6 71 rfl rfl), (mt1 3 rfl rfl), by decide +kernel, ⟨by decide +kernel, by decide +kernel, by decide +kernel⟩, rfl, fun _ => by contradiction, by decide, fun h => absurd rfl h⟩
theorem km_Lift_mostSwelling : mOK m_Lift_mostSwelling 2 := ⟨(mt6 96 rfl rfl), (mt1 3 rfl rfl), by decide +kernel, ⟨by decide +kernel, by decide +kernel, by decide +kernel⟩, rfl, fun _ => by contradiction, by decide, fun h => absurd rfl h⟩
theorem km_Lift_ridesOfAll : mOK m_Lift_ridesOfAll 0 := ⟨(mt6 173 rfl rfl), (mt1 3 rfl rfl), by decide +kernel, ⟨by decide +kernel, by decide +kernel, by decide +kernel⟩, rfl, fun _ => by contradiction, by decide, fun h => absurd rfl h⟩
theorem km_Past_init : mOK m_Past_init 0 := ⟨(mt2 27 rfl rfl), (mt1 8 rfl rfl), by decide +kernel, ⟨by decide +kernel, by decide +kernel, by decide +kernel⟩, rfl, fun _ => rfl, by decide, fun h => absurd rfl h⟩
theorem km_Past_undoWork : mOK m_Past_undoWork 1 := ⟨(mt2 174 rfl rfl), (mt1 8 rfl rfl), by decide +kernel, ⟨by decide +kernel, by decide +kernel, by decide +kernel⟩, rfl, fun _ => by contradiction, by decide, fun h => absurd rfl h⟩
theorem km_Past_keepImage : mOK m_Past_keepImage 1 := ⟨(mt3 24 rfl rfl), (mt1 8 rfl rfl), by decide +kernel, ⟨by decide +kernel, by decide +kernel, by decide +kernel⟩, rfl, fun _ => by contradiction, by decide, fun h => absurd rfl h⟩
theorem km_Past_copyKept : mOK m_Past_copyKept 2 := ⟨(mt3 47 rfl rfl), (mt1 8 rfl rfl), by decide +kernel, ⟨by decide +kernel, by decide +kernel, by decide +kernel⟩, rfl, fun _ => by contradiction, by decide, fun h => absurd rfl h⟩
theorem km_Past_restoreImage : mOK m_Past_restoreImage 1 := ⟨(mt3 55 rfl rfl), (mt1 8 rfl rfl), by decide +kernel, ⟨by decide +kernel, by decide +kernel, by decide +kernel⟩, rfl, fun _ => by contradiction, by decide, fun h => absurd rfl h⟩
theorem km_Past_forgetAll : mOK m_Past_forgetAll 0 := ⟨(mt4 47 rfl rfl), (mt1 8 rfl rfl), by decide +kernel, ⟨by decide +kernel, by decide +kernel, by decide +kernel⟩, rfl, fun _ => by contradiction, by decide, fun h => absurd rfl h⟩
theorem km_Past_isFull : mOK m_Past_isFull 0 := ⟨(mt4 103 rfl rfl), (mt1 8 rfl rfl), by decide +kernel, ⟨by decide +kernel, by decide +kernel, by decide +kernel⟩, rfl, fun _ => by contradiction, by decide, fun h => absurd rfl h⟩
theorem km_Past_keepWork : mOK m_Past_keepWork 1 := ⟨(mt4 132 rfl rfl), (mt1 8 rfl rfl), by decide +kernel, ⟨by decide +kernel, by decide +kernel, by decide +kernel⟩, rfl, fun _ => by contradiction, by decide, fun h => absurd rfl h⟩
theorem km_Reader_init : mOK m_Reader_init 0 := ⟨(mt1 39 rfl rfl), (mt1 2 rfl rfl), by decide +kernel, ⟨by decide +kernel, by decide +kernel, by decide +kernel⟩, rfl, fun _ => rfl, by decide, fun h => absurd rfl h⟩
theorem km_Reader_open : mOK m_Reader_open 1 := ⟨(mt3 152 rfl rfl), (mt1 2 rfl rfl), by decide +kernel, ⟨by decide +kernel, by decide +kernel, by decide +kernel⟩, rfl, fun _ => by contradiction, by decide, fun h => absurd rfl h⟩
theorem km_Reader_failed : mOK m_Reader_failed 0 := ⟨(mt3 163 rfl rfl), (mt1 2 rfl rfl), by decide +kernel, ⟨by decide +kernel, by decide +kernel, by decide +kernel⟩, rfl, fun _ => by contradiction, by decide, fun h => absurd rfl h⟩
theorem km_Reader_peek : mOK m_Reader_peek 0 := ⟨(mt3 167 rfl rfl), (mt1 2 rfl rfl), by decide +kernel, ⟨by decide +kernel, by decide +kernel, by decide +kernel⟩, rfl, fun _ => by contradiction, by decide, fun h => absurd rfl h⟩
theorem km_Reader_byteAt : mOK m_Reader_byteAt 1 := ⟨(mt3 171 rfl rfl), (mt1 2 rfl rfl), by decide +kernel, ⟨by decide +kernel, by decide +kernel, by decide +kernel⟩, rfl, fun _ => by contradiction, by decide, fun h => absurd rfl h⟩
theorem km_Reader_readWord : mOK m_Reader_readWord 1 := ⟨(mt3 176 rfl rfl), (mt1 2 rfl rfl), by decide +kernel, ⟨by decide +kernel, by decide +kernel, by decide +kernel⟩, rfl, fun _ => by contradiction, by decide, fun h => absurd rfl h⟩
theorem km_Reader_isLetter : mOK m_Reader_isLetter 1 := ⟨(mt3 180 rfl rfl), (mt1 2 rfl rfl), by decide +kernel, ⟨by decide +kernel, by decide +kernel, by decide +kernel⟩, rfl, fun _ => by contradiction, by decide, fun h => absurd rfl h⟩
theorem km_Reader_isWordLike : mOK m_Reader_isWordLike 3 := ⟨(mt3 232 rfl rfl), (mt1 2 rfl rfl), by decide +kernel, ⟨by decide +kernel, by decide +kernel, by decide +kernel⟩, rfl, fun _ => by contradiction, by decide, fun h => absurd rfl h⟩
theorem km_Reader_blame : mOK m_Reader_blame 2 := ⟨(mt3 236 rfl rfl), (mt1 2 rfl rfl), by decide +kernel, ⟨by decide +kernel, by decide +kernel, by decide +kernel⟩, rfl, fun _ => by contradiction, by decide, fun h => absurd rfl h⟩
theorem km_Reader_readNumber : mOK m_Reader_readNumber 2 := ⟨(mt4 9 rfl rfl), (mt1 2 rfl rfl), by decide +kernel, ⟨by decide +kernel, by decide +kernel, by decide +kernel⟩, rfl, fun _ => by contradiction, by decide, fun h => absurd rfl h⟩
theorem km_Reader_isDigit : mOK m_Reader_isDigit 1 := ⟨(mt4 12 rfl rfl), (mt1 2 rfl rfl), by decide +kernel, ⟨by decide +kernel, by decide +kernel, by decide +kernel⟩, rfl, fun _ => by contradiction, by decide, fun h => absurd rfl h⟩
theorem km_Reader_needSign : mOK m_Reader_needSign 1 := ⟨(mt4 26 rfl rfl), (mt1 2 rfl rfl), by decide +kernel, ⟨by decide +kernel, by decide +kernel, by decide +kernel⟩, rfl, fun _ => by contradiction, by decide, fun h => absurd rfl h⟩
theorem km_Reader_needEnd : mOK m_Reader_needEnd 0 := ⟨(mt4 92 rfl rfl), (mt1 2 rfl rfl), by decide +kernel, ⟨by decide +kernel, by decide +kernel, by decide +kernel⟩, rfl, fun _ => by contradiction, by decide, fun h => absurd rfl h⟩
theorem km_Scales_init : mOK m_Scales_init 0 := ⟨(mt2 52 rfl rfl), (mt1 9 rfl rfl), by decide +kernel, ⟨by decide +kernel, by decide +kernel, by decide +kernel⟩, rfl, fun _ => rfl, by decide, fun h => absurd rfl h⟩
theorem km_Scales_mostRides : mOK m_Scales_mostRides 1 := ⟨(mt2 195 rfl rfl), (mt1 9 rfl rfl), by decide +kernel, ⟨by decide +kernel, by decide +kernel, by decide +kernel⟩, rfl, fun _ => by contradiction, by decide, fun h => absurd rfl h⟩
theorem km_Scales_mostRidesOf : mOK m_Scales_mostRidesOf 2 := ⟨(mt2 216 rfl rfl), (mt1 9 rfl rfl), by decide +kernel, ⟨by decide +kernel, by decide +kernel, by decide +kernel⟩, rfl, fun _ => by contradiction, by decide, fun h => absurd rfl h⟩
theorem km_Scales_fewestCardsTo : mOK m_Scales_fewestCardsTo 2 := ⟨(mt5 155 rfl rfl), (mt1 9 rfl rfl), by decide +kernel, ⟨by decide +kernel, by decide +kernel, by decide +kernel⟩, rfl, fun _ => by contradiction, by decide, fun h => absurd rfl h⟩
theorem km_Scales_mostSwellInside : mOK m_Scales_mostSwellInside 2 := ⟨(mt5 159 rfl rfl), (mt1 9 rfl rfl), by decide +kernel, ⟨by decide +kernel, by decide +kernel, by decide +kernel⟩, rfl, fun _ => by contradiction, by decide, fun h => absurd rfl h⟩
theorem km_Scales_swellOfSet : mOK m_Scales_swellOfSet 1 := ⟨(mt5 167 rfl rfl), (mt1 9 rfl rfl), by decide +kernel, ⟨by decide +kernel, by decide +kernel, by decide +kernel⟩, rfl, fun _ => by contradiction, by decide, fun h => absurd rfl h⟩
theorem km_Scales_bestCouple : mOK m_Scales_bestCouple 1 := ⟨(mt5 180 rfl rfl), (mt1 9 rfl rfl), by decide +kernel, ⟨by decide +kernel, by decide +kernel, by decide +kernel⟩, rfl, fun _ => by contradiction, by decide, fun h => absurd rfl h⟩
theorem km_Scales_coupleApart : mOK m_Scales_coupleApart 3 := ⟨(mt5 184 rfl rfl), (mt1 9 rfl rfl), by decide +kernel, ⟨by decide +kernel, by decide +kernel, by decide +kernel⟩, rfl, fun _ => by contradiction, by decide, fun h => absurd rfl h⟩
theorem km_Scales_cheapestCard : mOK m_Scales_cheapestCard 2 := ⟨(mt5 209 rfl rfl), (mt1 9 rfl rfl), by decide +kernel, ⟨by decide +kernel, by decide +kernel, by decide +kernel⟩, rfl, fun _ => by contradiction, by decide, fun h => absurd rfl h⟩
theorem km_Scales_waysWithoutRun : mOK m_Scales_waysWithoutRun 3 := ⟨(mt6 26 rfl rfl), (mt1 9 rfl rfl), by decide +kernel, ⟨by decide +kernel, by decide +kernel, by decide +kernel⟩, rfl, fun _ => by contradiction, by decide, fun h => absurd rfl h⟩
theorem km_Scales_setWays : mOK m_Scales_setWays 2 := ⟨(mt6 33 rfl rfl), (mt1 9 rfl rfl), by decide +kernel, ⟨by decide +kernel, by decide +kernel, by decide +kernel⟩, rfl, fun _ => by contradiction, by decide, fun h => absurd rfl h⟩
theorem km_Scales_waysAt : mOK m_Scales_waysAt 1 := ⟨(mt6 37 rfl rfl), (mt1 9 rfl rfl), by decide +kernel, ⟨by decide +kernel, by decide +kernel, by decide +kernel⟩, rfl, fun _ => by contradiction, by decide, fun h => absurd rfl h⟩
theorem km_Week_init : mOK m_Week_init 0 := ⟨(mt2 72 rfl rfl), (mt1 10 rfl rfl), by decide +kernel, ⟨by decide +kernel, by decide +kernel, by decide +kernel⟩, rfl, fun _ => rfl, by decide, fun h => absurd rfl h⟩
theorem km_Week_live : mOK m_Week_live 4 := ⟨(mt6 154 rfl rfl), (mt1 10 rfl rfl), by decide +kernel, ⟨by decide +kernel, by decide +kernel, by decide +kernel⟩, rfl, fun _ => by contradiction, by decide, fun h => absurd rfl h⟩
theorem km_Week_doOnce : mOK m_Week_doOnce 2 := ⟨(mt6 158 rfl rfl), (mt1 10 rfl rfl), by decide +kernel, ⟨by decide +kernel, by decide +kernel, by decide +kernel⟩, rfl, fun _ => by contradiction, by decide, fun h => absurd rfl h⟩
theorem km_Week_draw : mOK m_Week_draw 1 := ⟨(mt6 162 rfl rfl), (mt1 10 rfl rfl), by decide +kernel, ⟨by decide +kernel, by decide +kernel, by decide +kernel⟩, rfl, fun _ => by contradiction, by decide, fun h => absurd rfl h⟩
theorem km_Work_init : mOK m_Work_init 0 := ⟨(mt1 236 rfl rfl), (mt1 7 rfl rfl), by decide +kernel, ⟨by decide +kernel, by decide +kernel, by decide +kernel⟩, rfl, fun _ => rfl, by decide, fun h => absurd rfl h⟩
theorem km_Work_wipe : mOK m_Work_wipe 0 := ⟨(mt4 107 rfl rfl), (mt1 7 rfl rfl), by decide +kernel, ⟨by decide +kernel, by decide +kernel, by decide +kernel⟩, rfl, fun _ => by contradiction, by decide, fun h => absurd rfl h⟩
theorem km_Work_readSteps : mOK m_Work_readSteps 3 := ⟨(mt4 111 rfl rfl), (mt1 7 rfl rfl), by decide +kernel, ⟨by decide +kernel, by decide +kernel, by decide +kernel⟩, rfl, fun _ => by contradiction, by decide, fun h => absurd rfl h⟩
theorem km_Work_readStep : mOK m_Work_readStep 3 := ⟨(mt4 117 rfl rfl), (mt1 7 rfl rfl), by decide +kernel, ⟨by decide +kernel, by decide +kernel, by decide +kernel⟩, rfl, fun _ => by contradiction, by decide, fun h => absurd rfl h⟩
theorem km_Work_readAgain : mOK m_Work_readAgain 4 := ⟨(mt4 125 rfl rfl), (mt1 7 rfl rfl), by decide +kernel, ⟨by decide +kernel, by decide +kernel, by decide +kernel⟩, rfl, fun _ => by contradiction, by decide, fun h => absurd rfl h⟩
theorem km_Work_doSteps : mOK m_Work_doSteps 4 := ⟨(mt4 137 rfl rfl), (mt1 7 rfl rfl), by decide +kernel, ⟨by decide +kernel, by decide +kernel, by decide +kernel⟩, rfl, fun _ => by contradiction, by decide, fun h => absurd rfl h⟩
theorem km_Work_doAgain : mOK m_Work_doAgain 3 := ⟨(mt4 142 rfl rfl), (mt1 7 rfl rfl), by decide +kernel, ⟨by decide +kernel, by decide +kernel, by decide +kernel⟩, rfl, fun _ => by contradiction, by decide, fun h => absurd rfl h⟩
theorem km_Work_doStep : mOK m_Work_doStep 4 := ⟨(mt4 146 rfl rfl), (mt1 7 rfl rfl), by decide +kernel, ⟨by decide +kernel, by decide +kernel, by decide +kernel⟩, rfl, fun _ => by contradiction, by decide, fun h => absurd rfl h⟩
theorem km_Work_behind : mOK m_Work_behind 1 := ⟨(mt5 3 rfl rfl), (mt1 7 rfl rfl), by decide +kernel, ⟨by decide +kernel, by decide +kernel, by decide +kernel⟩, rfl, fun _ => by contradiction, by decide, fun h => absurd rfl h⟩
theorem km_PL_init : mOK m_PL_init 0 := ⟨(mt1 31 rfl rfl), (mt1 1 rfl rfl), by decide +kernel, ⟨by decide +kernel, by decide +kernel, by decide +kernel⟩, rfl, fun _ => rfl, by decide, fun h => absurd rfl h⟩
theorem km_PL_feed : mOK m_PL_feed 5 := ⟨(mt2 158 rfl rfl), (mt1 1 rfl rfl), by decide +kernel, ⟨by decide +kernel, by decide +kernel, by decide +kernel⟩, rfl, fun _ => by contradiction, by decide, fun h => absurd rfl h⟩
theorem km_PL_putFourBytes : mOK m_PL_putFourBytes 1 := ⟨(mt2 162 rfl rfl), (mt1 1 rfl rfl), by decide +kernel, ⟨by decide +kernel, by decide +kernel, by decide +kernel⟩, rfl, fun _ => by contradiction, by decide, fun h => absurd rfl h⟩
theorem km_PL_fault : mOK m_PL_fault 0 := ⟨(mt2 166 rfl rfl), (mt1 1 rfl rfl), by decide +kernel, ⟨by decide +kernel, by decide +kernel, by decide +kernel⟩, rfl, fun _ => by contradiction, by decide, fun h => absurd rfl h⟩
theorem km_PL_undo : mOK m_PL_undo 0 := ⟨(mt2 170 rfl rfl), (mt1 1 rfl rfl), by decide +kernel, ⟨by decide +kernel, by decide +kernel, by decide +kernel⟩, rfl, fun _ => by contradiction, by decide, fun h => absurd rfl h⟩
theorem km_PL_copyRow : mOK m_PL_copyRow 2 := ⟨(mt2 181 rfl rfl), (mt1 1 rfl rfl), by decide +kernel, ⟨by decide +kernel, by decide +kernel, by decide +kernel⟩, rfl, fun _ => by contradiction, by decide, fun h => absurd rfl h⟩
theorem km_PL_rides : mOK m_PL_rides 0 := ⟨(mt2 191 rfl rfl), (mt1 1 rfl rfl), by decide +kernel, ⟨by decide +kernel, by decide +kernel, by decide +kernel⟩, rfl, fun _ => by contradiction, by decide, fun h => absurd rfl h⟩
theorem km_PL_isIn : mOK m_PL_isIn 2 := ⟨(mt2 202 rfl rfl), (mt1 1 rfl rfl), by decide +kernel, ⟨by decide +kernel, by decide +kernel, by decide +kernel⟩, rfl, fun _ => by contradiction, by decide, fun h => absurd rfl h⟩
theorem km_PL_at : mOK m_PL_at 2 := ⟨(mt2 209 rfl rfl), (mt1 1 rfl rfl), by decide +kernel, ⟨by decide +kernel, by decide +kernel, by decide +kernel⟩, rfl, fun _ => by contradiction, by decide, fun h => absurd rfl h⟩
theorem km_PL_put : mOK m_PL_put 3 := ⟨(mt2 212 rfl rfl), (mt1 1 rfl rfl), by decide +kernel, ⟨by decide +kernel, by decide +kernel, by decide +kernel⟩, rfl, fun _ => by contradiction, by decide, fun h => absurd rfl h⟩
theorem km_PL_waiting : mOK m_PL_waiting 0 := ⟨(mt2 230 rfl rfl), (mt1 1 rfl rfl), by decide +kernel, ⟨by decide +kernel, by decide +kernel, by decide +kernel⟩, rfl, fun _ => by contradiction, by decide, fun h => absurd rfl h⟩
theorem km_PL_lacks : mOK m_PL_lacks 0 := ⟨(mt3 3 rfl rfl), (mt1 1 rfl rfl), by decide +kernel, ⟨by decide +kernel, by decide +kernel, by decide +kernel⟩, rfl, fun _ => by contradiction, by decide, fun h => absurd rfl h⟩
theorem km_PL_vacant : mOK m_PL_vacant 0 := ⟨(mt3 12 rfl rfl), (mt1 1 rfl rfl), by decide +kernel, ⟨by decide +kernel, by decide +kernel, by decide +kernel⟩, rfl, fun _ => by contradiction, by decide, fun h => absurd rfl h⟩
theorem km_PL_image : mOK m_PL_image 0 := ⟨(mt3 20 rfl rfl), (mt1 1 rfl rfl), by decide +kernel, ⟨by decide +kernel, by decide +kernel, by decide +kernel⟩, rfl, fun _ => by contradiction, by decide, fun h => absurd rfl h⟩
theorem km_PL_restore : mOK m_PL_restore 0 := ⟨(mt3 51 rfl rfl), (mt1 1 rfl rfl), by decide +kernel, ⟨by decide +kernel, by decide +kernel, by decide +kernel⟩, rfl, fun _ => by contradiction, by decide, fun h => absurd rfl h⟩
theorem km_PL_status : mOK m_PL_status 1 := ⟨(mt3 59 rfl rfl), (mt1 1 rfl rfl), by decide +kernel, ⟨by decide +kernel, by decide +kernel, by decide +kernel⟩, rfl, fun _ => by contradiction, by decide, fun h => absurd rfl h⟩
theorem km_PL_count : mOK m_PL_count 1 := ⟨(mt3 63 rfl rfl), (mt1 1 rfl rfl), by decide +kernel, ⟨by decide +kernel, by decide +kernel, by decide +kernel⟩, rfl, fun _ => by contradiction, by decide, fun h => absurd rfl h⟩
theorem km_PL_house : mOK m_PL_house 1 := ⟨(mt3 71 rfl rfl), (mt1 1 rfl rfl), by decide +kernel, ⟨by decide +kernel, by decide +kernel, by decide +kernel⟩, rfl, fun _ => by contradiction, by decide, fun h => absurd rfl h⟩
theorem km_PL_openText : mOK m_PL_openText 2 := ⟨(mt3 75 rfl rfl), (mt1 1 rfl rfl), by decide +kernel, ⟨by decide +kernel, by decide +kernel, by decide +kernel⟩, rfl, fun _ => by contradiction, by decide, fun h => absurd rfl h⟩
theorem km_PL_isWithin : mOK m_PL_isWithin 3 := ⟨(mt3 78 rfl rfl), (mt1 1 rfl rfl), by decide +kernel, ⟨by decide +kernel, by decide +kernel, by decide +kernel⟩, rfl, fun _ => by contradiction, by decide, fun h => absurd rfl h⟩
theorem km_PL_needArgument : mOK m_PL_needArgument 1 := ⟨(mt3 82 rfl rfl), (mt1 1 rfl rfl), by decide +kernel, ⟨by decide +kernel, by decide +kernel, by decide +kernel⟩, rfl, fun _ => by contradiction, by decide, fun h => absurd rfl h⟩
theorem km_PL_closeText : mOK m_PL_closeText 1 := ⟨(mt4 51 rfl rfl), (mt1 1 rfl rfl), by decide +kernel, ⟨by decide +kernel, by decide +kernel, by decide +kernel⟩, rfl, fun _ => by contradiction, by decide, fun h => absurd rfl h⟩
theorem km_PL_law : mOK m_PL_law 1 := ⟨(mt4 58 rfl rfl), (mt1 1 rfl rfl), by decide +kernel, ⟨by decide +kernel, by decide +kernel, by decide +kernel⟩, rfl, fun _ => by contradiction, by decide, fun h => absurd rfl h⟩
theorem km_PL_work : mOK m_PL_work 1 := ⟨(mt4 99 rfl rfl), (mt1 1 rfl rfl), by decide +kernel, ⟨by decide +kernel, by decide +kernel, by decide +kernel⟩, rfl, fun _ => by contradiction, by decide, fun h => absurd rfl h⟩
theorem km_PL_book : mOK m_PL_book 1 := ⟨(mt5 11 rfl rfl), (mt1 1 rfl rfl), by decide +kernel, ⟨by decide +kernel, by decide +kernel, by decide +kernel⟩, rfl, fun _ => by contradiction, by decide, fun h => absurd rfl h⟩
theorem km_PL_told : mOK m_PL_told 1 := ⟨(mt5 34 rfl rfl), (mt1 1 rfl rfl), by decide +kernel, ⟨by decide +kernel, by decide +kernel, by decide +kernel⟩, rfl, fun _ => by contradiction, by decide, fun h => absurd rfl h⟩
theorem km_PL_man : mOK m_PL_man 2 := ⟨(mt5 46 rfl rfl), (mt1 1 rfl rfl), by decide +kernel, ⟨by decide +kernel, by decide +kernel, by decide +kernel⟩, rfl, fun _ => by contradiction, by decide, fun h => absurd rfl h⟩
theorem km_PL_needMan : mOK m_PL_needMan 1 := ⟨(mt5 50 rfl rfl), (mt1 1 rfl rfl), by decide +kernel, ⟨by decide +kernel, by decide +kernel, by decide +kernel⟩, rfl, fun _ => by contradiction, by decide, fun h => absurd rfl h⟩
theorem km_PL_needSomebody : mOK m_PL_needSomebody 1 := ⟨(mt5 54 rfl rfl), (mt1 1 rfl rfl), by decide +kernel, ⟨by decide +kernel, by decide +kernel, by decide +kernel⟩, rfl, fun _ => by contradiction, by decide, fun h => absurd rfl h⟩
theorem km_PL_card : mOK m_PL_card 2 := ⟨(mt5 84 rfl rfl), (mt1 1 rfl rfl), by decide +kernel, ⟨by decide +kernel, by decide +kernel, by decide +kernel⟩, rfl, fun _ => by contradiction, by decide, fun h => absurd rfl h⟩
theorem km_PL_needCard : mOK m_PL_needCard 1 := ⟨(mt5 88 rfl rfl), (mt1 1 rfl rfl), by decide +kernel, ⟨by decide +kernel, by decide +kernel, by decide +kernel⟩, rfl, fun _ => by contradiction, by decide, fun h => absurd rfl h⟩
theorem km_PL_heard : mOK m_PL_heard 2 := ⟨(mt5 99 rfl rfl), (mt1 1 rfl rfl), by decide +kernel, ⟨by decide +kernel, by decide +kernel, by decide +kernel⟩, rfl, fun _ => by contradiction, by decide, fun h => absurd rfl h⟩
theorem km_PL_swells : mOK m_PL_swells 2 := ⟨(mt5 107 rfl rfl), (mt1 1 rfl rfl), by decide +kernel, ⟨by decide +kernel, by decide +kernel, by decide +kernel⟩, rfl, fun _ => by contradiction, by decide, fun h => absurd rfl h⟩
theorem km_PL_would : mOK m_PL_would 9 := ⟨(mt5 115 rfl rfl), (mt1 1 rfl rfl), by decide +kernel, ⟨by decide +kernel, by decide +kernel, by decide +kernel⟩, rfl, fun _ => by contradiction, by decide, fun h => absurd rfl h⟩
theorem km_PL_ahead : mOK m_PL_ahead 2 := ⟨(mt5 126 rfl rfl), (mt1 1 rfl rfl), by decide +kernel, ⟨by decide +kernel, by decide +kernel, by decide +kernel⟩, rfl, fun _ => by contradiction, by decide, fun h => absurd rfl h⟩
theorem km_PL_to : mOK m_PL_to 1 := ⟨(mt5 151 rfl rfl), (mt1 1 rfl rfl), by decide +kernel, ⟨by decide +kernel, by decide +kernel, by decide +kernel⟩, rfl, fun _ => by contradiction, by decide, fun h => absurd rfl h⟩
theorem km_PL_couple : mOK m_PL_couple 1 := ⟨(mt5 176 rfl rfl), (mt1 1 rfl rfl), by decide +kernel, ⟨by decide +kernel, by decide +kernel, by decide +kernel⟩, rfl, fun _ => by contradiction, by decide, fun h => absurd rfl h⟩
theorem km_PL_meet : mOK m_PL_meet 1 := ⟨(mt5 194 rfl rfl), (mt1 1 rfl rfl), by decide +kernel, ⟨by decide +kernel, by decide +kernel, by decide +kernel⟩, rfl, fun _ => by contradiction, by decide, fun h => absurd rfl h⟩
theorem km_PL_cheapest : mOK m_PL_cheapest 1 := ⟨(mt5 205 rfl rfl), (mt1 1 rfl rfl), by decide +kernel, ⟨by decide +kernel, by decide +kernel, by decide +kernel⟩, rfl, fun _ => by contradiction, by decide, fun h => absurd rfl h⟩
theorem km_PL_fits : mOK m_PL_fits 1 := ⟨(mt5 216 rfl rfl), (mt1 1 rfl rfl), by decide +kernel, ⟨by decide +kernel, by decide +kernel, by decide +kernel⟩, rfl, fun _ => by contradiction, by decide, fun h => absurd rfl h⟩
theorem km_PL_look : mOK m_PL_look 1 := ⟨(mt6 5 rfl rfl), (mt1 1 rfl rfl), by decide +kernel, ⟨by decide +kernel, by decide +kernel, by decide +kernel⟩, rfl, fun _ => by contradiction, by decide, fun h => absurd rfl h⟩
theorem km_PL_streak : mOK m_PL_streak 4 := ⟨(mt6 22 rfl rfl), (mt1 1 rfl rfl), by decide +kernel, ⟨by decide +kernel, by decide +kernel, by decide +kernel⟩, rfl, fun _ => by contradiction, by decide, fun h => absurd rfl h⟩
theorem km_PL_flatter : mOK m_PL_flatter 3 := ⟨(mt6 45 rfl rfl), (mt1 1 rfl rfl), by decide +kernel, ⟨by decide +kernel, by decide +kernel, by decide +kernel⟩, rfl, fun _ => by contradiction, by decide, fun h => absurd rfl h⟩
theorem km_PL_isRest : mOK m_PL_isRest 4 := ⟨(mt6 48 rfl rfl), (mt1 1 rfl rfl), by decide +kernel, ⟨by decide +kernel, by decide +kernel, by decide +kernel⟩, rfl, fun _ => by contradiction, by decide, fun h => absurd rfl h⟩
theorem km_PL_flattererHas : mOK m_PL_flattererHas 4 := ⟨(mt6 51 rfl rfl), (mt1 1 rfl rfl), by decide +kernel, ⟨by decide +kernel, by decide +kernel, by decide +kernel⟩, rfl, fun _ => by contradiction, by decide, fun h => absurd rfl h⟩
theorem km_PL_breath : mOK m_PL_breath 3 := ⟨(mt6 58 rfl rfl), (mt1 1 rfl rfl), by decide +kernel, ⟨by decide +kernel, by decide +kernel, by decide +kernel⟩, rfl, fun _ => by contradiction, by decide, fun h => absurd rfl h⟩
theorem km_PL_isSetOfMen : mOK m_PL_isSetOfMen 1 := ⟨(mt6 62 rfl rfl), (mt1 1 rfl rfl), by decide +kernel, ⟨by decide +kernel, by decide +kernel, by decide +kernel⟩, rfl, fun _ => by contradiction, by decide, fun h => absurd rfl h⟩
theorem km_PL_heaviest : mOK m_PL_heaviest 1 := ⟨(mt6 78 rfl rfl), (mt1 1 rfl rfl), by decide +kernel, ⟨by decide +kernel, by decide +kernel, by decide +kernel⟩, rfl, fun _ => by contradiction, by decide, fun h => absurd rfl h⟩
theorem km_PL_floor : mOK m_PL_floor 1 := ⟨(mt6 85 rfl rfl), (mt1 1 rfl rfl), by decide +kernel, ⟨by decide +kernel, by decide +kernel, by decide +kernel⟩, rfl, fun _ => by contradiction, by decide, fun h => absurd rfl h⟩
theorem km_PL_sweetest : mOK m_PL_sweetest 2 := ⟨(mt6 92 rfl rfl), (mt1 1 rfl rfl), by decide +kernel, ⟨by decide +kernel, by decide +kernel, by decide +kernel⟩, rfl, fun _ => by contradiction, by decide, fun h => absurd rfl h⟩
theorem km_PL_cardOrSwell : mOK m_PL_cardOrSwell 3 := ⟨(mt6 100 rfl rfl), (mt1 1 rfl rfl), by decide +kernel, ⟨by decide +kernel, by decide +kernel, by decide +kernel⟩, rfl, fun _ => by contradiction, by decide, fun h => absurd rfl h⟩
theorem km_PL_truest : mOK m_PL_truest 2 := ⟨(mt6 107 rfl rfl), (mt1 1 rfl rfl), by decide +kernel, ⟨by decide +kernel, by decide +kernel, by decide +kernel⟩, rfl, fun _ => by contradiction, by decide, fun h => absurd rfl h⟩
theorem km_PL_proud : mOK m_PL_proud 1 := ⟨(mt6 114 rfl rfl), (mt1 1 rfl rfl), by decide +kernel, ⟨by decide +kernel, by decide +kernel, by decide +kernel⟩, rfl, fun _ => by contradiction, by decide, fun h => absurd rfl h⟩
theorem km_PL_liked : mOK m_PL_liked 1 := ⟨(mt6 121 rfl rfl), (mt1 1 rfl rfl), by decide +kernel, ⟨by decide +kernel, by decide +kernel, by decide +kernel⟩, rfl, fun _ => by contradiction, by decide, fun h => absurd rfl h⟩
theorem km_PL_above : mOK m_PL_above 1 := ⟨(mt6 128 rfl rfl), (mt1 1 rfl rfl), by decide +kernel, ⟨by decide +kernel, by decide +kernel, by decide +kernel⟩, rfl, fun _ => by contradiction, by decide, fun h => absurd rfl h⟩
theorem km_PL_ride : mOK m_PL_ride 1 := ⟨(mt6 135 rfl rfl), (mt1 1 rfl rfl), by decide +kernel, ⟨by decide +kernel, by decide +kernel, by decide +kernel⟩, rfl, fun _ => by contradiction, by decide, fun h => absurd rfl h⟩
theorem km_PL_times : mOK m_PL_times 3 := ⟨(mt6 142 rfl rfl), (mt1 1 rfl rfl), by decide +kernel, ⟨by decide +kernel, by decide +kernel, by decide +kernel⟩, rfl, fun _ => by contradiction, by decide, fun h => absurd rfl h⟩
theorem km_PL_week : mOK m_PL_week 4 := ⟨(mt6 150 rfl rfl), (mt1 1 rfl rfl), by decide +kernel, ⟨by decide +kernel, by decide +kernel, by decide +kernel⟩, rfl, fun _ => by contradiction, by decide, fun h => absurd rfl h⟩
theorem km_PL_span : mOK m_PL_span 6 := ⟨(mt6 180 rfl rfl), (mt1 1 rfl rfl), by decide +kernel, ⟨by decide +kernel, by decide +kernel, by decide +kernel⟩, rfl, fun _ => by contradiction, by decide, fun h => absurd rfl h⟩
theorem km_Mo_thrown : mOK m_Mo_thrown 0 := ⟨(mt6 185 rfl rfl), (mt1 12 rfl rfl), by decide +kernel, ⟨by decide +kernel, by decide +kernel, by decide +kernel⟩, rfl, fun _ => by contradiction, by decide, fun h => absurd rfl h⟩
theorem km_Mo_init : mOK m_Mo_init 0 := ⟨(mt6 190 rfl rfl), (mt1 12 rfl rfl), by decide +kernel, ⟨by decide +kernel, by decide +kernel, by decide +kernel⟩, rfl, fun _ => rfl, by decide, fun h => absurd rfl h⟩
theorem km_Mo_clears : mOK m_Mo_clears 0 := ⟨(mt6 195 rfl rfl), (mt1 12 rfl rfl), by decide +kernel, ⟨by decide +kernel, by decide +kernel, by decide +kernel⟩, rfl, fun _ => by contradiction, by decide, fun h => absurd rfl h⟩
theorem km_Mo_sets : mOK m_Mo_sets 0 := ⟨(mt6 199 rfl rfl), (mt1 12 rfl rfl), by decide +kernel, ⟨by decide +kernel, by decide +kernel, by decide +kernel⟩, rfl, fun _ => by contradiction, by decide, fun h => absurd rfl h⟩
theorem km_Mo_copies : mOK m_Mo_copies 3 := ⟨(mt6 203 rfl rfl), (mt1 12 rfl rfl), by decide +kernel, ⟨by decide +kernel, by decide +kernel, by decide +kernel⟩, rfl, fun _ => by contradiction, by decide, fun h => absurd rfl h⟩
theorem km_Mo_feed : mOK m_Mo_feed 5 := ⟨(mt7 121 rfl rfl), (mt1 12 rfl rfl), by decide +kernel, ⟨by decide +kernel, by decide +kernel, by decide +kernel⟩, rfl, fun _ => by contradiction, by decide, fun h => absurd rfl h⟩
theorem km_Mo_fault : mOK m_Mo_fault 0 := ⟨(mt7 125 rfl rfl), (mt1 12 rfl rfl), by decide +kernel, ⟨by decide +kernel, by decide +kernel, by decide +kernel⟩, rfl, fun _ => by contradiction, by decide, fun h => absurd rfl h⟩
theorem km_Mo_house : mOK m_Mo_house 1 := ⟨(mt7 129 rfl rfl), (mt1 12 rfl rfl), by decide +kernel, ⟨by decide +kernel, by decide +kernel, by decide +kernel⟩, rfl, fun _ => by contradiction, by decide, fun h => absurd rfl h⟩
theorem km_Mo_may : mOK m_Mo_may 3 := ⟨(mt7 133 rfl rfl), (mt1 12 rfl rfl), by decide +kernel, ⟨by decide +kernel, by decide +kernel, by decide +kernel⟩, rfl, fun _ => by contradiction, by decide, fun h => absurd rfl h⟩
theorem km_Mo_begins : mOK m_Mo_begins 1 := ⟨(mt7 137 rfl rfl), (mt1 12 rfl rfl), by decide +kernel, ⟨by decide +kernel, by decide +kernel, by decide +kernel⟩, rfl, fun _ => by contradiction, by decide, fun h => absurd rfl h⟩
theorem km_Mo_fine : mOK m_Mo_fine 0 := ⟨(mt7 141 rfl rfl), (mt1 12 rfl rfl), by decide +kernel, ⟨by decide +kernel, by decide +kernel, by decide +kernel⟩, rfl, fun _ => by contradiction, by decide, fun h => absurd rfl h⟩
theorem km_Mo_isMore : mOK m_Mo_isMore 0 := ⟨(mt7 145 rfl rfl), (mt1 12 rfl rfl), by decide +kernel, ⟨by decide +kernel, by decide +kernel, by decide +kernel⟩, rfl, fun _ => by contradiction, by decide, fun h => absurd rfl h⟩
theorem km_Mo_here : mOK m_Mo_here 0 := ⟨(mt7 149 rfl rfl), (mt1 12 rfl rfl), by decide +kernel, ⟨by decide +kernel, by decide +kernel, by decide +kernel⟩, rfl, fun _ => by contradiction, by decide, fun h => absurd rfl h⟩
theorem km_Mo_word : mOK m_Mo_word 0 := ⟨(mt7 153 rfl rfl), (mt1 12 rfl rfl), by decide +kernel, ⟨by decide +kernel, by decide +kernel, by decide +kernel⟩, rfl, fun _ => by contradiction, by decide, fun h => absurd rfl h⟩
theorem km_Mo_isSmall : mOK m_Mo_isSmall 1 := ⟨(mt7 156 rfl rfl), (mt1 12 rfl rfl), by decide +kernel, ⟨by decide +kernel, by decide +kernel, by decide +kernel⟩, rfl, fun _ => by contradiction, by decide, fun h => absurd rfl h⟩
theorem km_Mo_isRow : mOK m_Mo_isRow 1 := ⟨(mt7 159 rfl rfl), (mt1 12 rfl rfl), by decide +kernel, ⟨by decide +kernel, by decide +kernel, by decide +kernel⟩, rfl, fun _ => by contradiction, by decide, fun h => absurd rfl h⟩
theorem km_Mo_of : mOK m_Mo_of 1 := ⟨(mt7 163 rfl rfl), (mt1 12 rfl rfl), by decide +kernel, ⟨by decide +kernel, by decide +kernel, by decide +kernel⟩, rfl, fun _ => by contradiction, by decide, fun h => absurd rfl h⟩
theorem km_Mo_wrong : mOK m_Mo_wrong 2 := ⟨(mt7 172 rfl rfl), (mt1 12 rfl rfl), by decide +kernel, ⟨by decide +kernel, by decide +kernel, by decide +kernel⟩, rfl, fun _ => by contradiction, by decide, fun h => absurd rfl h⟩
theorem km_Mo_isFull : mOK m_Mo_isFull 1 := ⟨(mt7 176 rfl rfl), (mt1 12 rfl rfl), by decide +kernel, ⟨by decide +kernel, by decide +kernel, by decide +kernel⟩, rfl, fun _ => by contradiction, by decide, fun h => absurd rfl h⟩
theorem km_Mo_pass : mOK m_Mo_pass 0 := ⟨(mt7 180 rfl rfl), (mt1 12 rfl rfl), by decide +kernel, ⟨by decide +kernel, by decide +kernel, by decide +kernel⟩, rfl, fun _ => by contradiction, by decide, fun h => absurd rfl h⟩
theorem km_Mo_readRow : mOK m_Mo_readRow 1 := ⟨(mt7 184 rfl rfl), (mt1 12 rfl rfl), by decide +kernel, ⟨by decide +kernel, by decide +kernel, by decide +kernel⟩, rfl, fun _ => by contradiction, by decide, fun h => absurd rfl h⟩
theorem km_Mo_readNumber : mOK m_Mo_readNumber 2 := ⟨(mt7 188 rfl rfl), (mt1 12 rfl rfl), by decide +kernel, ⟨by decide +kernel, by decide +kernel, by decide +kernel⟩, rfl, fun _ => by contradiction, by decide, fun h => absurd rfl h⟩
theorem km_Mo_isDigit : mOK m_Mo_isDigit 1 := ⟨(mt7 191 rfl rfl), (mt1 12 rfl rfl), by decide +kernel, ⟨by decide +kernel, by decide +kernel, by decide +kernel⟩, rfl, fun _ => by contradiction, by decide, fun h => absurd rfl h⟩
theorem km_Mo_sign : mOK m_Mo_sign 1 := ⟨(mt7 195 rfl rfl), (mt1 12 rfl rfl), by decide +kernel, ⟨by decide +kernel, by decide +kernel, by decide +kernel⟩, rfl, fun _ => by contradiction, by decide, fun h => absurd rfl h⟩
theorem km_Mo_result : mOK m_Mo_result 1 := ⟨(mt7 199 rfl rfl), (mt1 12 rfl rfl), by decide +kernel, ⟨by decide +kernel, by decide +kernel, by decide +kernel⟩, rfl, fun _ => by contradiction, by decide, fun h => absurd rfl h⟩
theorem km_Mo_law : mOK m_Mo_law 1 := ⟨(mt7 203 rfl rfl), (mt1 12 rfl rfl), by decide +kernel, ⟨by decide +kernel, by decide +kernel, by decide +kernel⟩, rfl, fun _ => by contradiction, by decide, fun h => absurd rfl h⟩
theorem km_Mo_readSum : mOK m_Mo_readSum 0 := ⟨(mt7 207 rfl rfl), (mt1 12 rfl rfl), by decide +kernel, ⟨by decide +kernel, by decide +kernel, by decide +kernel⟩, rfl, fun _ => by contradiction, by decide, fun h => absurd rfl h⟩
theorem km_Mo_readProduct : mOK m_Mo_readProduct 0 := ⟨(mt7 211 rfl rfl), (mt1 12 rfl rfl), by decide +kernel, ⟨by decide +kernel, by decide +kernel, by decide +kernel⟩, rfl, fun _ => by contradiction, by decide, fun h => absurd rfl h⟩
theorem km_Mo_readUnit : mOK m_Mo_readUnit 0 := ⟨(mt7 215 rfl rfl), (mt1 12 rfl rfl), by decide +kernel, ⟨by decide +kernel, by decide +kernel, by decide +kernel⟩, rfl, fun _ => by contradiction, by decide, fun h => absurd rfl h⟩
theorem km_Mo_opensOne : mOK m_Mo_opensOne 1 := ⟨(mt7 219 rfl rfl), (mt1 12 rfl rfl), by decide +kernel, ⟨by decide +kernel, by decide +kernel, by decide +kernel⟩, rfl, fun _ => by contradiction, by decide, fun h => absurd rfl h⟩
theorem km_Mo_emit : mOK m_Mo_emit 2 := ⟨(mt7 223 rfl rfl), (mt1 12 rfl rfl), by decide +kernel, ⟨by decide +kernel, by decide +kernel, by decide +kernel⟩, rfl, fun _ => by contradiction, by decide, fun h => absurd rfl h⟩
theorem km_Mo_readTwo : mOK m_Mo_readTwo 2 := ⟨(mt7 228 rfl rfl), (mt1 12 rfl rfl), by decide +kernel, ⟨by decide +kernel, by decide +kernel, by decide +kernel⟩, rfl, fun _ => by contradiction, by decide, fun h => absurd rfl h⟩
theorem km_Mo_factHere : mOK m_Mo_factHere 0 := ⟨(mt7 233 rfl rfl), (mt1 12 rfl rfl), by decide +kernel, ⟨by decide +kernel, by decide +kernel, by decide +kernel⟩, rfl, fun _ => by contradiction, by decide, fun h => absurd rfl h⟩
theorem km_Mo_work : mOK m_Mo_work 1 := ⟨(mt8 5 rfl rfl), (mt1 12 rfl rfl), by decide +kernel, ⟨by decide +kernel, by decide +kernel, by decide +kernel⟩, rfl, fun _ => by contradiction, by decide, fun h => absurd rfl h⟩
theorem km_Mo_readStep : mOK m_Mo_readStep 0 := ⟨(mt8 9 rfl rfl), (mt1 12 rfl rfl), by decide +kernel, ⟨by decide +kernel, by decide +kernel, by decide +kernel⟩, rfl, fun _ => by contradiction, by decide, fun h => absurd rfl h⟩
theorem km_Mo_stepOf : mOK m_Mo_stepOf 1 := ⟨(mt8 12 rfl rfl), (mt1 12 rfl rfl), by decide +kernel, ⟨by decide +kernel, by decide +kernel, by decide +kernel⟩, rfl, fun _ => by contradiction, by decide, fun h => absurd rfl h⟩
theorem km_Mo_tellsStep : mOK m_Mo_tellsStep 3 := ⟨(mt8 24 rfl rfl), (mt1 12 rfl rfl), by decide +kernel, ⟨by decide +kernel, by decide +kernel, by decide +kernel⟩, rfl, fun _ => by contradiction, by decide, fun h => absurd rfl h⟩
theorem km_Mo_take : mOK m_Mo_take 0 := ⟨(mt8 28 rfl rfl), (mt1 12 rfl rfl), by decide +kernel, ⟨by decide +kernel, by decide +kernel, by decide +kernel⟩, rfl, fun _ => by contradiction, by decide, fun h => absurd rfl h⟩
theorem km_Mo_goesSteps : mOK m_Mo_goesSteps 2 := ⟨(mt8 32 rfl rfl), (mt1 12 rfl rfl), by decide +kernel, ⟨by decide +kernel, by decide +kernel, by decide +kernel⟩, rfl, fun _ => by contradiction, by decide, fun h => absurd rfl h⟩
theorem km_Mo_isDone : mOK m_Mo_isDone 3 := ⟨(mt8 36 rfl rfl), (mt1 12 rfl rfl), by decide +kernel, ⟨by decide +kernel, by decide +kernel, by decide +kernel⟩, rfl, fun _ => by contradiction, by decide, fun h => absurd rfl h⟩
theorem km_Mo_enters : mOK m_Mo_enters 1 := ⟨(mt8 40 rfl rfl), (mt1 12 rfl rfl), by decide +kernel, ⟨by decide +kernel, by decide +kernel, by decide +kernel⟩, rfl, fun _ => by contradiction, by decide, fun h => absurd rfl h⟩
theorem km_Mo_canEnter : mOK m_Mo_canEnter 1 := ⟨(mt8 44 rfl rfl), (mt1 12 rfl rfl), by decide +kernel, ⟨by decide +kernel, by decide +kernel, by decide +kernel⟩, rfl, fun _ => by contradiction, by decide, fun h => absurd rfl h⟩
theorem km_Mo_inside : mOK m_Mo_inside 0 := ⟨(mt8 48 rfl rfl), (mt1 12 rfl rfl), by decide +kernel, ⟨by decide +kernel, by decide +kernel, by decide +kernel⟩, rfl, fun _ => by contradiction, by decide, fun h => absurd rfl h⟩
theorem km_Mo_ones : mOK m_Mo_ones 1 := ⟨(mt8 51 rfl rfl), (mt1 12 rfl rfl), by decide +kernel, ⟨by decide +kernel, by decide +kernel, by decide +kernel⟩, rfl, fun _ => by contradiction, by decide, fun h => absurd rfl h⟩
theorem km_Mo_leaves : mOK m_Mo_leaves 1 := ⟨(mt8 55 rfl rfl), (mt1 12 rfl rfl), by decide +kernel, ⟨by decide +kernel, by decide +kernel, by decide +kernel⟩, rfl, fun _ => by contradiction, by decide, fun h => absurd rfl h⟩
theorem km_Mo_says : mOK m_Mo_says 2 := ⟨(mt8 59 rfl rfl), (mt1 12 rfl rfl), by decide +kernel, ⟨by decide +kernel, by decide +kernel, by decide +kernel⟩, rfl, fun _ => by contradiction, by decide, fun h => absurd rfl h⟩
theorem km_Mo_swellsBy : mOK m_Mo_swellsBy 2 := ⟨(mt8 63 rfl rfl), (mt1 12 rfl rfl), by decide +kernel, ⟨by decide +kernel, by decide +kernel, by decide +kernel⟩, rfl, fun _ => by contradiction, by decide, fun h => absurd rfl h⟩
theorem km_Mo_floorOf : mOK m_Mo_floorOf 1 := ⟨(mt8 67 rfl rfl), (mt1 12 rfl rfl), by decide +kernel, ⟨by decide +kernel, by decide +kernel, by decide +kernel⟩, rfl, fun _ => by contradiction, by decide, fun h => absurd rfl h⟩
theorem km_Mo_swellsOf : mOK m_Mo_swellsOf 9 := ⟨(mt8 71 rfl rfl), (mt1 12 rfl rfl), by decide +kernel, ⟨by decide +kernel, by decide +kernel, by decide +kernel⟩, rfl, fun _ => by contradiction, by decide, fun h => absurd rfl h⟩
theorem km_Mo_swellsNow : mOK m_Mo_swellsNow 0 := ⟨(mt8 75 rfl rfl), (mt1 12 rfl rfl), by decide +kernel, ⟨by decide +kernel, by decide +kernel, by decide +kernel⟩, rfl, fun _ => by contradiction, by decide, fun h => absurd rfl h⟩
theorem km_Mo_valueNow : mOK m_Mo_valueNow 0 := ⟨(mt8 79 rfl rfl), (mt1 12 rfl rfl), by decide +kernel, ⟨by decide +kernel, by decide +kernel, by decide +kernel⟩, rfl, fun _ => by contradiction, by decide, fun h => absurd rfl h⟩
theorem km_Mo_both : mOK m_Mo_both 3 := ⟨(mt8 82 rfl rfl), (mt1 12 rfl rfl), by decide +kernel, ⟨by decide +kernel, by decide +kernel, by decide +kernel⟩, rfl, fun _ => by contradiction, by decide, fun h => absurd rfl h⟩
theorem km_Mo_held : mOK m_Mo_held 1 := ⟨(mt8 85 rfl rfl), (mt1 12 rfl rfl), by decide +kernel, ⟨by decide +kernel, by decide +kernel, by decide +kernel⟩, rfl, fun _ => by contradiction, by decide, fun h => absurd rfl h⟩
theorem km_Mo_isLie : mOK m_Mo_isLie 2 := ⟨(mt8 89 rfl rfl), (mt1 12 rfl rfl), by decide +kernel, ⟨by decide +kernel, by decide +kernel, by decide +kernel⟩, rfl, fun _ => by contradiction, by decide, fun h => absurd rfl h⟩
theorem km_Mo_insults : mOK m_Mo_insults 1 := ⟨(mt8 93 rfl rfl), (mt1 12 rfl rfl), by decide +kernel, ⟨by decide +kernel, by decide +kernel, by decide +kernel⟩, rfl, fun _ => by contradiction, by decide, fun h => absurd rfl h⟩
theorem km_Mo_rides0 : mOK m_Mo_rides0 0 := ⟨(mt8 97 rfl rfl), (mt1 12 rfl rfl), by decide +kernel, ⟨by decide +kernel, by decide +kernel, by decide +kernel⟩, rfl, fun _ => by contradiction, by decide, fun h => absurd rfl h⟩
theorem km_Mo_heavyAll : mOK m_Mo_heavyAll 1 := ⟨(mt8 101 rfl rfl), (mt1 12 rfl rfl), by decide +kernel, ⟨by decide +kernel, by decide +kernel, by decide +kernel⟩, rfl, fun _ => by contradiction, by decide, fun h => absurd rfl h⟩
theorem km_Mo_heavyOf : mOK m_Mo_heavyOf 1 := ⟨(mt8 105 rfl rfl), (mt1 12 rfl rfl), by decide +kernel, ⟨by decide +kernel, by decide +kernel, by decide +kernel⟩, rfl, fun _ => by contradiction, by decide, fun h => absurd rfl h⟩
theorem km_Mo_goesTo : mOK m_Mo_goesTo 2 := ⟨(mt8 109 rfl rfl), (mt1 12 rfl rfl), by decide +kernel, ⟨by decide +kernel, by decide +kernel, by decide +kernel⟩, rfl, fun _ => by contradiction, by decide, fun h => absurd rfl h⟩
theorem km_Mo_passes : mOK m_Mo_passes 0 := ⟨(mt8 113 rfl rfl), (mt1 12 rfl rfl), by decide +kernel, ⟨by decide +kernel, by decide +kernel, by decide +kernel⟩, rfl, fun _ => by contradiction, by decide, fun h => absurd rfl h⟩
theorem km_Mo_book : mOK m_Mo_book 1 := ⟨(mt8 117 rfl rfl), (mt1 12 rfl rfl), by decide +kernel, ⟨by decide +kernel, by decide +kernel, by decide +kernel⟩, rfl, fun _ => by contradiction, by decide, fun h => absurd rfl h⟩
theorem km_Mo_undo : mOK m_Mo_undo 0 := ⟨(mt8 121 rfl rfl), (mt1 12 rfl rfl), by decide +kernel, ⟨by decide +kernel, by decide +kernel, by decide +kernel⟩, rfl, fun _ => by contradiction, by decide, fun h => absurd rfl h⟩
theorem km_Mo_told : mOK m_Mo_told 1 := ⟨(mt8 125 rfl rfl), (mt1 12 rfl rfl), by decide +kernel, ⟨by decide +kernel, by decide +kernel, by decide +kernel⟩, rfl, fun _ => by contradiction, by decide, fun h => absurd rfl h⟩
theorem km_Mo_within : mOK m_Mo_within 3 := ⟨(mt8 128 rfl rfl), (mt1 12 rfl rfl), by decide +kernel, ⟨by decide +kernel, by decide +kernel, by decide +kernel⟩, rfl, fun _ => by contradiction, by decide, fun h => absurd rfl h⟩
theorem km_Mo_loadNow : mOK m_Mo_loadNow 0 := ⟨(mt8 132 rfl rfl), (mt1 12 rfl rfl), by decide +kernel, ⟨by decide +kernel, by decide +kernel, by decide +kernel⟩, rfl, fun _ => by contradiction, by decide, fun h => absurd rfl h⟩
theorem km_Mo_goesNow : mOK m_Mo_goesNow 0 := ⟨(mt8 136 rfl rfl), (mt1 12 rfl rfl), by decide +kernel, ⟨by decide +kernel, by decide +kernel, by decide +kernel⟩, rfl, fun _ => by contradiction, by decide, fun h => absurd rfl h⟩
theorem km_Mo_man : mOK m_Mo_man 2 := ⟨(mt8 140 rfl rfl), (mt1 12 rfl rfl), by decide +kernel, ⟨by decide +kernel, by decide +kernel, by decide +kernel⟩, rfl, fun _ => by contradiction, by decide, fun h => absurd rfl h⟩
theorem km_Mo_isMan : mOK m_Mo_isMan 2 := ⟨(mt8 144 rfl rfl), (mt1 12 rfl rfl), by decide +kernel, ⟨by decide +kernel, by decide +kernel, by decide +kernel⟩, rfl, fun _ => by contradiction, by decide, fun h => absurd rfl h⟩
theorem km_Mo_card : mOK m_Mo_card 2 := ⟨(mt8 148 rfl rfl), (mt1 12 rfl rfl), by decide +kernel, ⟨by decide +kernel, by decide +kernel, by decide +kernel⟩, rfl, fun _ => by contradiction, by decide, fun h => absurd rfl h⟩
theorem km_Mo_isCard : mOK m_Mo_isCard 2 := ⟨(mt8 152 rfl rfl), (mt1 12 rfl rfl), by decide +kernel, ⟨by decide +kernel, by decide +kernel, by decide +kernel⟩, rfl, fun _ => by contradiction, by decide, fun h => absurd rfl h⟩
theorem km_Mo_heard : mOK m_Mo_heard 2 := ⟨(mt8 156 rfl rfl), (mt1 12 rfl rfl), by decide +kernel, ⟨by decide +kernel, by decide +kernel, by decide +kernel⟩, rfl, fun _ => by contradiction, by decide, fun h => absurd rfl h⟩
theorem km_Mo_swells : mOK m_Mo_swells 2 := ⟨(mt8 160 rfl rfl), (mt1 12 rfl rfl), by decide +kernel, ⟨by decide +kernel, by decide +kernel, by decide +kernel⟩, rfl, fun _ => by contradiction, by decide, fun h => absurd rfl h⟩
theorem km_Mo_would : mOK m_Mo_would 9 := ⟨(mt8 164 rfl rfl), (mt1 12 rfl rfl), by decide +kernel, ⟨by decide +kernel, by decide +kernel, by decide +kernel⟩, rfl, fun _ => by contradiction, by decide, fun h => absurd rfl h⟩
theorem km_Mo_ahead : mOK m_Mo_ahead 2 := ⟨(mt8 168 rfl rfl), (mt1 12 rfl rfl), by decide +kernel, ⟨by decide +kernel, by decide +kernel, by decide +kernel⟩, rfl, fun _ => by contradiction, by decide, fun h => absurd rfl h⟩
theorem km_Mo_prideAll : mOK m_Mo_prideAll 0 := ⟨(mt8 172 rfl rfl), (mt1 12 rfl rfl), by decide +kernel, ⟨by decide +kernel, by decide +kernel, by decide +kernel⟩, rfl, fun _ => by contradiction, by decide, fun h => absurd rfl h⟩
theorem km_Mo_to : mOK m_Mo_to 1 := ⟨(mt8 176 rfl rfl), (mt1 12 rfl rfl), by decide +kernel, ⟨by decide +kernel, by decide +kernel, by decide +kernel⟩, rfl, fun _ => by contradiction, by decide, fun h => absurd rfl h⟩
theorem km_Mo_mostBy : mOK m_Mo_mostBy 1 := ⟨(mt8 180 rfl rfl), (mt1 12 rfl rfl), by decide +kernel, ⟨by decide +kernel, by decide +kernel, by decide +kernel⟩, rfl, fun _ => by contradiction, by decide, fun h => absurd rfl h⟩
theorem km_Mo_rides : mOK m_Mo_rides 0 := ⟨(mt8 184 rfl rfl), (mt1 12 rfl rfl), by decide +kernel, ⟨by decide +kernel, by decide +kernel, by decide +kernel⟩, rfl, fun _ => by contradiction, by decide, fun h => absurd rfl h⟩
theorem km_Mo_couple : mOK m_Mo_couple 1 := ⟨(mt8 188 rfl rfl), (mt1 12 rfl rfl), by decide +kernel, ⟨by decide +kernel, by decide +kernel, by decide +kernel⟩, rfl, fun _ => by contradiction, by decide, fun h => absurd rfl h⟩
theorem km_Mo_size : mOK m_Mo_size 1 := ⟨(mt8 191 rfl rfl), (mt1 12 rfl rfl), by decide +kernel, ⟨by decide +kernel, by decide +kernel, by decide +kernel⟩, rfl, fun _ => by contradiction, by decide, fun h => absurd rfl h⟩
theorem km_Mo_meet : mOK m_Mo_meet 1 := ⟨(mt8 195 rfl rfl), (mt1 12 rfl rfl), by decide +kernel, ⟨by decide +kernel, by decide +kernel, by decide +kernel⟩, rfl, fun _ => by contradiction, by decide, fun h => absurd rfl h⟩
theorem km_Mo_cheapest : mOK m_Mo_cheapest 1 := ⟨(mt8 199 rfl rfl), (mt1 12 rfl rfl), by decide +kernel, ⟨by decide +kernel, by decide +kernel, by decide +kernel⟩, rfl, fun _ => by contradiction, by decide, fun h => absurd rfl h⟩
theorem km_Mo_fits : mOK m_Mo_fits 1 := ⟨(mt8 203 rfl rfl), (mt1 12 rfl rfl), by decide +kernel, ⟨by decide +kernel, by decide +kernel, by decide +kernel⟩, rfl, fun _ => by contradiction, by decide, fun h => absurd rfl h⟩
theorem km_Mo_isFit : mOK m_Mo_isFit 2 := ⟨(mt8 207 rfl rfl), (mt1 12 rfl rfl), by decide +kernel, ⟨by decide +kernel, by decide +kernel, by decide +kernel⟩, rfl, fun _ => by contradiction, by decide, fun h => absurd rfl h⟩
theorem km_Mo_heavyThen : mOK m_Mo_heavyThen 3 := ⟨(mt8 211 rfl rfl), (mt1 12 rfl rfl), by decide +kernel, ⟨by decide +kernel, by decide +kernel, by decide +kernel⟩, rfl, fun _ => by contradiction, by decide, fun h => absurd rfl h⟩
theorem km_Mo_look : mOK m_Mo_look 1 := ⟨(mt8 215 rfl rfl), (mt1 12 rfl rfl), by decide +kernel, ⟨by decide +kernel, by decide +kernel, by decide +kernel⟩, rfl, fun _ => by contradiction, by decide, fun h => absurd rfl h⟩
theorem km_Mo_worstOf : mOK m_Mo_worstOf 1 := ⟨(mt8 219 rfl rfl), (mt1 12 rfl rfl), by decide +kernel, ⟨by decide +kernel, by decide +kernel, by decide +kernel⟩, rfl, fun _ => by contradiction, by decide, fun h => absurd rfl h⟩
theorem km_Mo_streak : mOK m_Mo_streak 4 := ⟨(mt8 223 rfl rfl), (mt1 12 rfl rfl), by decide +kernel, ⟨by decide +kernel, by decide +kernel, by decide +kernel⟩, rfl, fun _ => by contradiction, by decide, fun h => absurd rfl h⟩
theorem km_Mo_least : mOK m_Mo_least 3 := ⟨(mt8 227 rfl rfl), (mt1 12 rfl rfl), by decide +kernel, ⟨by decide +kernel, by decide +kernel, by decide +kernel⟩, rfl, fun _ => by contradiction, by decide, fun h => absurd rfl h⟩
theorem km_Mo_flatter : mOK m_Mo_flatter 3 := ⟨(mt8 231 rfl rfl), (mt1 12 rfl rfl), by decide +kernel, ⟨by decide +kernel, by decide +kernel, by decide +kernel⟩, rfl, fun _ => by contradiction, by decide, fun h => absurd rfl h⟩
theorem km_Mo_hasBy : mOK m_Mo_hasBy 4 := ⟨(mt8 234 rfl rfl), (mt1 12 rfl rfl), by decide +kernel, ⟨by decide +kernel, by decide +kernel, by decide +kernel⟩, rfl, fun _ => by contradiction, by decide, fun h => absurd rfl h⟩
theorem km_Mo_breath : mOK m_Mo_breath 3 := ⟨(mt8 238 rfl rfl), (mt1 12 rfl rfl), by decide +kernel, ⟨by decide +kernel, by decide +kernel, by decide +kernel⟩, rfl, fun _ => by contradiction, by decide, fun h => absurd rfl h⟩
theorem km_Mo_breathBy : mOK m_Mo_breathBy 2 := ⟨(mt9 2 rfl rfl), (mt1 12 rfl rfl), by decide +kernel, ⟨by decide +kernel, by decide +kernel, by decide +kernel⟩, rfl, fun _ => by contradiction, by decide, fun h => absurd rfl h⟩
theorem km_Mo_heaviest : mOK m_Mo_heaviest 1 := ⟨(mt9 6 rfl rfl), (mt1 12 rfl rfl), by decide +kernel, ⟨by decide +kernel, by decide +kernel, by decide +kernel⟩, rfl, fun _ => by contradiction, by decide, fun h => absurd rfl h⟩
theorem km_Mo_waiting : mOK m_Mo_waiting 0 := ⟨(mt9 10 rfl rfl), (mt1 12 rfl rfl), by decide +kernel, ⟨by decide +kernel, by decide +kernel, by decide +kernel⟩, rfl, fun _ => by contradiction, by decide, fun h => absurd rfl h⟩
theorem km_Mo_floor : mOK m_Mo_floor 1 := ⟨(mt9 14 rfl rfl), (mt1 12 rfl rfl), by decide +kernel, ⟨by decide +kernel, by decide +kernel, by decide +kernel⟩, rfl, fun _ => by contradiction, by decide, fun h => absurd rfl h⟩
theorem km_Mo_sweetest : mOK m_Mo_sweetest 2 := ⟨(mt9 18 rfl rfl), (mt1 12 rfl rfl), by decide +kernel, ⟨by decide +kernel, by decide +kernel, by decide +kernel⟩, rfl, fun _ => by contradiction, by decide, fun h => absurd rfl h⟩
theorem km_Mo_lacks : mOK m_Mo_lacks 0 := ⟨(mt9 22 rfl rfl), (mt1 12 rfl rfl), by decide +kernel, ⟨by decide +kernel, by decide +kernel, by decide +kernel⟩, rfl, fun _ => by contradiction, by decide, fun h => absurd rfl h⟩
theorem km_Mo_truest : mOK m_Mo_truest 2 := ⟨(mt9 26 rfl rfl), (mt1 12 rfl rfl), by decide +kernel, ⟨by decide +kernel, by decide +kernel, by decide +kernel⟩, rfl, fun _ => by contradiction, by decide, fun h => absurd rfl h⟩
theorem km_Mo_proud : mOK m_Mo_proud 1 := ⟨(mt9 30 rfl rfl), (mt1 12 rfl rfl), by decide +kernel, ⟨by decide +kernel, by decide +kernel, by decide +kernel⟩, rfl, fun _ => by contradiction, by decide, fun h => absurd rfl h⟩
theorem km_Mo_liked : mOK m_Mo_liked 1 := ⟨(mt9 34 rfl rfl), (mt1 12 rfl rfl), by decide +kernel, ⟨by decide +kernel, by decide +kernel, by decide +kernel⟩, rfl, fun _ => by contradiction, by decide, fun h => absurd rfl h⟩
theorem km_Mo_above : mOK m_Mo_above 1 := ⟨(mt9 38 rfl rfl), (mt1 12 rfl rfl), by decide +kernel, ⟨by decide +kernel, by decide +kernel, by decide +kernel⟩, rfl, fun _ => by contradiction, by decide, fun h => absurd rfl h⟩
theorem km_Mo_ride : mOK m_Mo_ride 1 := ⟨(mt9 42 rfl rfl), (mt1 12 rfl rfl), by decide +kernel, ⟨by decide +kernel, by decide +kernel, by decide +kernel⟩, rfl, fun _ => by contradiction, by decide, fun h => absurd rfl h⟩
theorem km_Mo_vacant : mOK m_Mo_vacant 0 := ⟨(mt9 46 rfl rfl), (mt1 12 rfl rfl), by decide +kernel, ⟨by decide +kernel, by decide +kernel, by decide +kernel⟩, rfl, fun _ => by contradiction, by decide, fun h => absurd rfl h⟩
theorem km_Mo_times : mOK m_Mo_times 3 := ⟨(mt9 50 rfl rfl), (mt1 12 rfl rfl), by decide +kernel, ⟨by decide +kernel, by decide +kernel, by decide +kernel⟩, rfl, fun _ => by contradiction, by decide, fun h => absurd rfl h⟩
theorem km_Mo_week : mOK m_Mo_week 4 := ⟨(mt9 54 rfl rfl), (mt1 12 rfl rfl), by decide +kernel, ⟨by decide +kernel, by decide +kernel, by decide +kernel⟩, rfl, fun _ => by contradiction, by decide, fun h => absurd rfl h⟩
theorem km_Mo_isWeek : mOK m_Mo_isWeek 2 := ⟨(mt9 57 rfl rfl), (mt1 12 rfl rfl), by decide +kernel, ⟨by decide +kernel, by decide +kernel, by decide +kernel⟩, rfl, fun _ => by contradiction, by decide, fun h => absurd rfl h⟩
theorem km_Mo_weekGoes : mOK m_Mo_weekGoes 3 := ⟨(mt9 61 rfl rfl), (mt1 12 rfl rfl), by decide +kernel, ⟨by decide +kernel, by decide +kernel, by decide +kernel⟩, rfl, fun _ => by contradiction, by decide, fun h => absurd rfl h⟩
theorem km_Mo_draws : mOK m_Mo_draws 1 := ⟨(mt9 65 rfl rfl), (mt1 12 rfl rfl), by decide +kernel, ⟨by decide +kernel, by decide +kernel, by decide +kernel⟩, rfl, fun _ => by contradiction, by decide, fun h => absurd rfl h⟩
theorem km_Mo_rodeMore : mOK m_Mo_rodeMore 0 := ⟨(mt9 70 rfl rfl), (mt1 12 rfl rfl), by decide +kernel, ⟨by decide +kernel, by decide +kernel, by decide +kernel⟩, rfl, fun _ => by contradiction, by decide, fun h => absurd rfl h⟩
theorem km_Mo_span : mOK m_Mo_span 6 := ⟨(mt9 74 rfl rfl), (mt1 12 rfl rfl), by decide +kernel, ⟨by decide +kernel, by decide +kernel, by decide +kernel⟩, rfl, fun _ => by contradiction, by decide, fun h => absurd rfl h⟩
theorem km_Mo_image : mOK m_Mo_image 0 := ⟨(mt9 78 rfl rfl), (mt1 12 rfl rfl), by decide +kernel, ⟨by decide +kernel, by decide +kernel, by decide +kernel⟩, rfl, fun _ => by contradiction, by decide, fun h => absurd rfl h⟩
theorem km_Mo_keepsAll : mOK m_Mo_keepsAll 2 := ⟨(mt9 82 rfl rfl), (mt1 12 rfl rfl), by decide +kernel, ⟨by decide +kernel, by decide +kernel, by decide +kernel⟩, rfl, fun _ => by contradiction, by decide, fun h => absurd rfl h⟩
theorem km_Mo_keepsRow : mOK m_Mo_keepsRow 4 := ⟨(mt9 86 rfl rfl), (mt1 12 rfl rfl), by decide +kernel, ⟨by decide +kernel, by decide +kernel, by decide +kernel⟩, rfl, fun _ => by contradiction, by decide, fun h => absurd rfl h⟩
theorem km_Mo_restore : mOK m_Mo_restore 0 := ⟨(mt9 90 rfl rfl), (mt1 12 rfl rfl), by decide +kernel, ⟨by decide +kernel, by decide +kernel, by decide +kernel⟩, rfl, fun _ => by contradiction, by decide, fun h => absurd rfl h⟩
theorem km_Mo_status : mOK m_Mo_status 1 := ⟨(mt9 94 rfl rfl), (mt1 12 rfl rfl), by decide +kernel, ⟨by decide +kernel, by decide +kernel, by decide +kernel⟩, rfl, fun _ => by contradiction, by decide, fun h => absurd rfl h⟩
theorem km_Mo_count : mOK m_Mo_count 1 := ⟨(mt9 98 rfl rfl), (mt1 12 rfl rfl), by decide +kernel, ⟨by decide +kernel, by decide +kernel, by decide +kernel⟩, rfl, fun _ => by contradiction, by decide, fun h => absurd rfl h⟩
theorem km_LL_house : mOK m_LL_house 3 := ⟨(mt3 66 rfl rfl), (mt1 0 rfl rfl), by decide +kernel, ⟨by decide +kernel, by decide +kernel, by decide +kernel⟩, rfl, fun _ => by contradiction, by decide, fun h => rfl⟩
theorem km_LL_law : mOK m_LL_law 3 := ⟨(mt4 54 rfl rfl), (mt1 0 rfl rfl), by decide +kernel, ⟨by decide +kernel, by decide +kernel, by decide +kernel⟩, rfl, fun _ => by contradiction, by decide, fun h => rfl⟩
theorem km_LL_work : mOK m_LL_work 3 := ⟨(mt4 95 rfl rfl), (mt1 0 rfl rfl), by decide +kernel, ⟨by decide +kernel, by decide +kernel, by decide +kernel⟩, rfl, fun _ => by contradiction, by decide, fun h => rfl⟩
theorem km_LL_book : mOK m_LL_book 3 := ⟨(mt5 7 rfl rfl), (mt1 0 rfl rfl), by decide +kernel, ⟨by decide +kernel, by decide +kernel, by decide +kernel⟩, rfl, fun _ => by contradiction, by decide, fun h => rfl⟩
theorem km_LL_told : mOK m_LL_told 3 := ⟨(mt5 30 rfl rfl), (mt1 0 rfl rfl), by decide +kernel, ⟨by decide +kernel, by decide +kernel, by decide +kernel⟩, rfl, fun _ => by contradiction, by decide, fun h => rfl⟩
theorem km_LL_man : mOK m_LL_man 4 := ⟨(mt5 41 rfl rfl), (mt1 0 rfl rfl), by decide +kernel, ⟨by decide +kernel, by decide +kernel, by decide +kernel⟩, rfl, fun _ => by contradiction, by decide, fun h => rfl⟩
theorem km_LL_card : mOK m_LL_card 4 := ⟨(mt5 80 rfl rfl), (mt1 0 rfl rfl), by decide +kernel, ⟨by decide +kernel, by decide +kernel, by decide +kernel⟩, rfl, fun _ => by contradiction, by decide, fun h => rfl⟩
theorem km_LL_heard : mOK m_LL_heard 4 := ⟨(mt5 95 rfl rfl), (mt1 0 rfl rfl), by decide +kernel, ⟨by decide +kernel, by decide +kernel, by decide +kernel⟩, rfl, fun _ => by contradiction, by decide, fun h => rfl⟩
theorem km_LL_swells : mOK m_LL_swells 4 := ⟨(mt5 103 rfl rfl), (mt1 0 rfl rfl), by decide +kernel, ⟨by decide +kernel, by decide +kernel, by decide +kernel⟩, rfl, fun _ => by contradiction, by decide, fun h => rfl⟩
theorem km_LL_would : mOK m_LL_would 11 := ⟨(mt5 111 rfl rfl), (mt1 0 rfl rfl), by decide +kernel, ⟨by decide +kernel, by decide +kernel, by decide +kernel⟩, rfl, fun _ => by contradiction, by decide, fun h => rfl⟩
theorem km_LL_ahead : mOK m_LL_ahead 4 := ⟨(mt5 122 rfl rfl), (mt1 0 rfl rfl), by decide +kernel, ⟨by decide +kernel, by decide +kernel, by decide +kernel⟩, rfl, fun _ => by contradiction, by decide, fun h => rfl⟩
theorem km_LL_to : mOK m_LL_to 3 := ⟨(mt5 147 rfl rfl), (mt1 0 rfl rfl), by decide +kernel, ⟨by decide +kernel, by decide +kernel, by decide +kernel⟩, rfl, fun _ => by contradiction, by decide, fun h => rfl⟩
theorem km_LL_couple : mOK m_LL_couple 3 := ⟨(mt5 172 rfl rfl), (mt1 0 rfl rfl), by decide +kernel, ⟨by decide +kernel, by decide +kernel, by decide +kernel⟩, rfl, fun _ => by contradiction, by decide, fun h => rfl⟩
theorem km_LL_meet : mOK m_LL_meet 3 := ⟨(mt5 190 rfl rfl), (mt1 0 rfl rfl), by decide +kernel, ⟨by decide +kernel, by decide +kernel, by decide +kernel⟩, rfl, fun _ => by contradiction, by decide, fun h => rfl⟩
theorem km_LL_cheapest : mOK m_LL_cheapest 3 := ⟨(mt5 201 rfl rfl), (mt1 0 rfl rfl), by decide +kernel, ⟨by decide +kernel, by decide +kernel, by decide +kernel⟩, rfl, fun _ => by contradiction, by decide, fun h => rfl⟩
theorem km_LL_fits : mOK m_LL_fits 3 := ⟨(mt5 212 rfl rfl), (mt1 0 rfl rfl), by decide +kernel, ⟨by decide +kernel, by decide +kernel, by decide +kernel⟩, rfl, fun _ => by contradiction, by decide, fun h => rfl⟩
theorem km_LL_look : mOK m_LL_look 3 := ⟨(mt6 1 rfl rfl), (mt1 0 rfl rfl), by decide +kernel, ⟨by decide +kernel, by decide +kernel, by decide +kernel⟩, rfl, fun _ => by contradiction, by decide, fun h => rfl⟩
theorem km_LL_streak : mOK m_LL_streak 6 := ⟨(mt6 18 rfl rfl), (mt1 0 rfl rfl), by decide +kernel, ⟨by decide +kernel, by decide +kernel, by decide +kernel⟩, rfl, fun _ => by contradiction, by decide, fun h => rfl⟩
theorem km_LL_flatter : mOK m_LL_flatter 5 := ⟨(mt6 41 rfl rfl), (mt1 0 rfl rfl), by decide +kernel, ⟨by decide +kernel, by decide +kernel, by decide +kernel⟩, rfl, fun _ => by contradiction, by decide, fun h => rfl⟩
theorem km_LL_breath : mOK m_LL_breath 5 := ⟨(mt6 54 rfl rfl), (mt1 0 rfl rfl), by decide +kernel, ⟨by decide +kernel, by decide +kernel, by decide +kernel⟩, rfl, fun _ => by contradiction, by decide, fun h => rfl⟩
theorem km_LL_heaviest : mOK m_LL_heaviest 3 := ⟨(mt6 74 rfl rfl), (mt1 0 rfl rfl), by decide +kernel, ⟨by decide +kernel, by decide +kernel, by decide +kernel⟩, rfl, fun _ => by contradiction, by decide, fun h => rfl⟩
theorem km_LL_floor : mOK m_LL_floor 3 := ⟨(mt6 81 rfl rfl), (mt1 0 rfl rfl), by decide +kernel, ⟨by decide +kernel, by decide +kernel, by decide +kernel⟩, rfl, fun _ => by contradiction, by decide, fun h => rfl⟩
theorem km_LL_sweetest : mOK m_LL_sweetest 4 := ⟨(mt6 88 rfl rfl), (mt1 0 rfl rfl), by decide +kernel, ⟨by decide +kernel, by decide +kernel, by decide +kernel⟩, rfl, fun _ => by contradiction, by decide, fun h => rfl⟩
theorem km_LL_truest : mOK m_LL_truest 4 := ⟨(mt6 103 rfl rfl), (mt1 0 rfl rfl), by decide +kernel, ⟨by decide +kernel, by decide +kernel, by decide +kernel⟩, rfl, fun _ => by contradiction, by decide, fun h => rfl⟩
theorem km_LL_proud : mOK m_LL_proud 3 := ⟨(mt6 110 rfl rfl), (mt1 0 rfl rfl), by decide +kernel, ⟨by decide +kernel, by decide +kernel, by decide +kernel⟩, rfl, fun _ => by contradiction, by decide, fun h => rfl⟩
theorem km_LL_liked : mOK m_LL_liked 3 := ⟨(mt6 117 rfl rfl), (mt1 0 rfl rfl), by decide +kernel, ⟨by decide +kernel, by decide +kernel, by decide +kernel⟩, rfl, fun _ => by contradiction, by decide, fun h => rfl⟩
theorem km_LL_above : mOK m_LL_above 3 := ⟨(mt6 124 rfl rfl), (mt1 0 rfl rfl), by decide +kernel, ⟨by decide +kernel, by decide +kernel, by decide +kernel⟩, rfl, fun _ => by contradiction, by decide, fun h => rfl⟩
theorem km_LL_ride : mOK m_LL_ride 3 := ⟨(mt6 131 rfl rfl), (mt1 0 rfl rfl), by decide +kernel, ⟨by decide +kernel, by decide +kernel, by decide +kernel⟩, rfl, fun _ => by contradiction, by decide, fun h => rfl⟩
theorem km_LL_times : mOK m_LL_times 5 := ⟨(mt6 138 rfl rfl), (mt1 0 rfl rfl), by decide +kernel, ⟨by decide +kernel, by decide +kernel, by decide +kernel⟩, rfl, fun _ => by contradiction, by decide, fun h => rfl⟩
theorem km_LL_week : mOK m_LL_week 6 := ⟨(mt6 146 rfl rfl), (mt1 0 rfl rfl), by decide +kernel, ⟨by decide +kernel, by decide +kernel, by decide +kernel⟩, rfl, fun _ => by contradiction, by decide, fun h => rfl⟩
theorem km_LL_span : mOK m_LL_span 8 := ⟨(mt6 176 rfl rfl), (mt1 0 rfl rfl), by decide +kernel, ⟨by decide +kernel, by decide +kernel, by decide +kernel⟩, rfl, fun _ => by contradiction, by decide, fun h => rfl⟩
theorem km_Integer_bitCount : mOK m_Integer_bitCount 1 := ⟨(mt2 220 rfl rfl), (mt1 24 rfl rfl), by decide +kernel, ⟨by decide +kernel, by decide +kernel, by decide +kernel⟩, rfl, fun _ => by contradiction, by decide, fun h => absurd rfl h⟩
theorem km_Arrays_fill : mOK m_Arrays_fill 2 := ⟨(mt4 39 rfl rfl), (mt1 23 rfl rfl), by decide +kernel, ⟨by decide +kernel, by decide +kernel, by decide +kernel⟩, rfl, fun _ => by contradiction, by decide, fun h => absurd rfl h⟩
theorem km_Arrays_fill2 : mOK m_Arrays_fill2 2 := ⟨(mt6 29 rfl rfl), (mt1 23 rfl rfl), by decide +kernel, ⟨by decide +kernel, by decide +kernel, by decide +kernel⟩, rfl, fun _ => by contradiction, by decide, fun h => absurd rfl h⟩
def lOK (o idx how : Nat) (m : MM) : Prop := match how with
  | 0 => zh m = [] ∧ mOK m (zn m) ∧ Cond.methodLink (zC o) idx (zy m) ∈ gt ∧ Cond.static (zy m) ∈ gt
  | 1 => zh m = [] ∧ 1 ≤ zn m ∧ mOK m (zn m - 1) ∧ Cond.methodLink (zC o) idx (zy m) ∈ gt ∧ Cond.instanceMethod (zy m) ∈ gt ∧ Cond.selects (zy m).cls (zy m) (zy m) ∈ gt ∧ zo m < 13
  | 2 => zh m = [] ∧ 1 ≤ zn m ∧ mOK m (zn m - 1) ∧ Cond.methodLink (zC o) idx (zy m) ∈ gt ∧ Cond.instanceMethod (zy m) ∈ gt ∧ (zy m).name = "<init>" ∧ zr m = none ∧ zo m < 13
  | 3 => zh m = [] ∧ 1 ≤ zn m ∧ mOK m (zn m - 1) ∧ Cond.methodLinkNest (zC o) idx (zy m) "PraiseLift" ∈ nw ∧ Cond.instanceMethod (zy m) ∈ gt ∧ (zy m).name = "<init>" ∧ zr m = none ∧ zo m < 13
  | 4 => zh m = [] ∧ mOK m (zn m) ∧ Cond.methodLinkNest (zC o) idx (zy m) "PraiseLift" ∈ nw ∧ Cond.static (zy m) ∈ gt
  | 6 => zh m ≠ [] ∧ mOK m (zn m) ∧ Cond.methodLink (zC o) idx (zy m) ∈ gt ∧ Cond.static (zy m) ∈ gt
  | 7 => Cond.methodLink (zC o) idx objectInit ∈ gt
  | 8 => Cond.methodLink (zC o) idx ⟨"java/lang/System", "arraycopy", "(Ljava/lang/Object;ILjava/lang/Object;II)V"⟩ ∈ gt
  | 9 => Cond.methodLink (zC o) idx ⟨"java/lang/String", "length", "()I"⟩ ∈ gt
  | 10 => Cond.methodLink (zC o) idx ⟨"java/lang/String", "charAt", "(I)C"⟩ ∈ gt
  | 11 => Cond.methodLink (zC o) idx Lib.Math.min.name ∈ gt
  | 12 => Cond.methodLink (zC o) idx Lib.Math.max.name ∈ gt
  | 13 => Cond.methodLink (zC o) idx Lib.Math.abs.name ∈ gt
  | _ => False
theorem lk_11_1 : lOK 11 1 7 m_PL_at := (mt1 32 rfl rfl)
theorem lk_11_9 : lOK 11 9 3 m_Reader_init := ⟨rfl, by decide, km_Reader_init, (mn1 37 rfl rfl), (mt1 38 rfl rfl), rfl, rfl, by decide⟩
theorem lk_11_18 : lOK 11 18 3 m_Lift_init := ⟨rfl, by decide, km_Lift_init, (mn1 71 rfl rfl), (mt1 72 rfl rfl), rfl, rfl, by decide⟩
theorem lk_11_28 : lOK 11 28 3 m_Work_init := ⟨rfl, by decide, km_Work_init, (mn1 234 rfl rfl), (mt1 235 rfl rfl), rfl, rfl, by decide⟩
theorem lk_11_35 : lOK 11 35 3 m_Past_init := ⟨rfl, by decide, km_Past_init, (mn2 25 rfl rfl), (mt2 26 rfl rfl), rfl, rfl, by decide⟩
theorem lk_11_42 : lOK 11 42 3 m_Scales_init := ⟨rfl, by decide, km_Scales_init, (mn2 50 rfl rfl), (mt2 51 rfl rfl), rfl, rfl, by decide⟩
theorem lk_11_49 : lOK 11 49 3 m_Week_init := ⟨rfl, by decide, km_Week_init, (mn2 70 rfl rfl), (mt2 71 rfl rfl), rfl, rfl, by decide⟩
theorem lk_11_56 : lOK 11 56 2 m_Law_init := ⟨rfl, by decide, km_Law_init, (mt2 79 rfl rfl), (mt1 140 rfl rfl), rfl, rfl, by decide⟩
theorem lk_11_63 : lOK 11 63 3 m_Book_init := ⟨rfl, by decide, km_Book_init, (mn2 82 rfl rfl), (mt2 83 rfl rfl), rfl, rfl, by decide⟩
theorem lk_11_87 : lOK 11 87 1 m_PL_putFourBytes := ⟨rfl, by decide, km_PL_putFourBytes, (mt2 159 rfl rfl), (mt2 161 rfl rfl), (mt0 1 rfl rfl), by decide⟩
theorem lk_11_91 : lOK 11 91 1 m_PL_openText := ⟨rfl, by decide, km_PL_openText, (mt3 72 rfl rfl), (mt3 74 rfl rfl), (mt0 3 rfl rfl), by decide⟩
theorem lk_11_97 : lOK 11 97 3 m_House_init := ⟨rfl, by decide, km_House_init, (mn3 155 rfl rfl), (mt1 78 rfl rfl), rfl, rfl, by decide⟩
theorem lk_11_98 : lOK 11 98 1 m_House_readClauses := ⟨rfl, by decide, km_House_readClauses, (mt3 156 rfl rfl), (mt3 157 rfl rfl), (mt3 158 rfl rfl), by decide⟩
theorem lk_11_102 : lOK 11 102 1 m_Reader_failed := ⟨rfl, by decide, km_Reader_failed, (mt4 27 rfl rfl), (mt3 161 rfl rfl), (mt3 162 rfl rfl), by decide⟩
theorem lk_11_106 : lOK 11 106 1 m_Lift_moveInto := ⟨rfl, by decide, km_Lift_moveInto, (mt4 28 rfl rfl), (mt4 29 rfl rfl), (mt4 30 rfl rfl), by decide⟩
theorem lk_11_110 : lOK 11 110 1 m_Book_wipe := ⟨rfl, by decide, km_Book_wipe, (mt4 40 rfl rfl), (mt4 41 rfl rfl), (mt4 42 rfl rfl), by decide⟩
theorem lk_11_113 : lOK 11 113 1 m_Past_forgetAll := ⟨rfl, by decide, km_Past_forgetAll, (mt4 44 rfl rfl), (mt4 45 rfl rfl), (mt4 46 rfl rfl), by decide⟩
theorem lk_11_119 : lOK 11 119 1 m_PL_closeText := ⟨rfl, by decide, km_PL_closeText, (mt4 48 rfl rfl), (mt4 50 rfl rfl), (mt0 10 rfl rfl), by decide⟩
theorem lk_11_123 : lOK 11 123 1 m_Law_wipe := ⟨rfl, by decide, km_Law_wipe, (mt4 59 rfl rfl), (mt1 148 rfl rfl), (mt1 149 rfl rfl), by decide⟩
theorem lk_11_124 : lOK 11 124 1 m_Law_readSum := ⟨rfl, by decide, km_Law_readSum, (mt4 60 rfl rfl), (mt4 61 rfl rfl), (mt4 62 rfl rfl), by decide⟩
theorem lk_11_128 : lOK 11 128 1 m_Reader_needEnd := ⟨rfl, by decide, km_Reader_needEnd, (mt4 89 rfl rfl), (mt4 90 rfl rfl), (mt4 91 rfl rfl), by decide⟩
theorem lk_11_134 : lOK 11 134 1 m_Past_isFull := ⟨rfl, by decide, km_Past_isFull, (mt4 100 rfl rfl), (mt4 101 rfl rfl), (mt4 102 rfl rfl), by decide⟩
theorem lk_11_137 : lOK 11 137 1 m_Work_wipe := ⟨rfl, by decide, km_Work_wipe, (mt4 104 rfl rfl), (mt4 105 rfl rfl), (mt4 106 rfl rfl), by decide⟩
theorem lk_11_142 : lOK 11 142 1 m_Work_readSteps := ⟨rfl, by decide, km_Work_readSteps, (mt4 108 rfl rfl), (mt4 109 rfl rfl), (mt4 110 rfl rfl), by decide⟩
theorem lk_11_150 : lOK 11 150 1 m_Past_keepWork := ⟨rfl, by decide, km_Past_keepWork, (mt4 129 rfl rfl), (mt4 130 rfl rfl), (mt4 131 rfl rfl), by decide⟩
theorem lk_11_157 : lOK 11 157 1 m_Work_doSteps := ⟨rfl, by decide, km_Work_doSteps, (mt4 134 rfl rfl), (mt4 135 rfl rfl), (mt4 136 rfl rfl), by decide⟩
theorem lk_11_167 : lOK 11 167 1 m_Book_readLines := ⟨rfl, by decide, km_Book_readLines, (mt5 12 rfl rfl), (mt5 13 rfl rfl), (mt5 14 rfl rfl), by decide⟩
theorem lk_11_173 : lOK 11 173 1 m_Past_undoWork := ⟨rfl, by decide, km_Past_undoWork, (mt2 171 rfl rfl), (mt2 172 rfl rfl), (mt2 173 rfl rfl), by decide⟩
theorem lk_11_177 : lOK 11 177 0 m_PL_isWithin := ⟨rfl, km_PL_isWithin, (mt3 76 rfl rfl), (mt3 77 rfl rfl)⟩
theorem lk_11_181 : lOK 11 181 1 m_PL_needArgument := ⟨rfl, by decide, km_PL_needArgument, (mt3 79 rfl rfl), (mt3 81 rfl rfl), (mt0 4 rfl rfl), by decide⟩
theorem lk_11_202 : lOK 11 202 1 m_Lift_loadNow := ⟨rfl, by decide, km_Lift_loadNow, (mt3 4 rfl rfl), (mt3 5 rfl rfl), (mt3 6 rfl rfl), by decide⟩
theorem lk_11_212 : lOK 11 212 1 m_Lift_levelWith := ⟨rfl, by decide, km_Lift_levelWith, (mt5 35 rfl rfl), (mt5 36 rfl rfl), (mt5 37 rfl rfl), by decide⟩
theorem lk_11_215 : lOK 11 215 1 m_PL_needMan := ⟨rfl, by decide, km_PL_needMan, (mt5 47 rfl rfl), (mt5 49 rfl rfl), (mt0 19 rfl rfl), by decide⟩
theorem lk_11_218 : lOK 11 218 1 m_Lift_placeOf := ⟨rfl, by decide, km_Lift_placeOf, (mt3 13 rfl rfl), (mt3 14 rfl rfl), (mt3 15 rfl rfl), by decide⟩
theorem lk_11_225 : lOK 11 225 0 m_PL_at := ⟨rfl, km_PL_at, (mt5 71 rfl rfl), (mt2 208 rfl rfl)⟩
theorem lk_11_235 : lOK 11 235 1 m_Lift_heavyOf := ⟨rfl, by decide, km_Lift_heavyOf, (mt5 72 rfl rfl), (mt2 204 rfl rfl), (mt2 205 rfl rfl), by decide⟩
theorem lk_11_238 : lOK 11 238 1 m_Lift_isInside := ⟨rfl, by decide, km_Lift_isInside, (mt5 73 rfl rfl), (mt2 236 rfl rfl), (mt2 237 rfl rfl), by decide⟩
theorem lk_11_245 : lOK 11 245 1 m_Lift_liesTo := ⟨rfl, by decide, km_Lift_liesTo, (mt5 74 rfl rfl), (mt5 75 rfl rfl), (mt5 76 rfl rfl), by decide⟩
theorem lk_11_248 : lOK 11 248 1 m_PL_needCard := ⟨rfl, by decide, km_PL_needCard, (mt5 85 rfl rfl), (mt5 87 rfl rfl), (mt0 21 rfl rfl), by decide⟩
theorem lk_11_257 : lOK 11 257 1 m_Lift_heardByAll := ⟨rfl, by decide, km_Lift_heardByAll, (mt5 89 rfl rfl), (mt5 90 rfl rfl), (mt5 91 rfl rfl), by decide⟩
theorem lk_11_260 : lOK 11 260 1 m_Days_timesHeard := ⟨rfl, by decide, km_Days_timesHeard, (mt5 100 rfl rfl), (mt4 162 rfl rfl), (mt4 163 rfl rfl), by decide⟩
theorem lk_11_264 : lOK 11 264 1 m_Lift_swellOf := ⟨rfl, by decide, km_Lift_swellOf, (mt5 108 rfl rfl), (mt4 167 rfl rfl), (mt4 168 rfl rfl), by decide⟩
theorem lk_11_267 : lOK 11 267 1 m_Law_tellWords := ⟨rfl, by decide, km_Law_tellWords, (mt5 116 rfl rfl), (mt4 171 rfl rfl), (mt4 172 rfl rfl), by decide⟩
theorem lk_11_271 : lOK 11 271 1 m_Law_tellMan := ⟨rfl, by decide, km_Law_tellMan, (mt5 117 rfl rfl), (mt4 176 rfl rfl), (mt4 177 rfl rfl), by decide⟩
theorem lk_11_274 : lOK 11 274 1 m_Law_tellWhere := ⟨rfl, by decide, km_Law_tellWhere, (mt5 118 rfl rfl), (mt4 181 rfl rfl), (mt4 182 rfl rfl), by decide⟩
theorem lk_11_277 : lOK 11 277 1 m_Law_swellByFacts := ⟨rfl, by decide, km_Law_swellByFacts, (mt5 119 rfl rfl), (mt4 185 rfl rfl), (mt4 186 rfl rfl), by decide⟩
theorem lk_11_280 : lOK 11 280 1 m_Lift_levelBehindGoes := ⟨rfl, by decide, km_Lift_levelBehindGoes, (mt5 127 rfl rfl), (mt5 128 rfl rfl), (mt5 129 rfl rfl), by decide⟩
theorem lk_11_283 : lOK 11 283 1 m_Lift_becomeLike := ⟨rfl, by decide, km_Lift_becomeLike, (mt5 131 rfl rfl), (mt5 132 rfl rfl), (mt5 133 rfl rfl), by decide⟩
theorem lk_11_287 : lOK 11 287 1 m_Lift_halvePrides := ⟨rfl, by decide, km_Lift_halvePrides, (mt5 136 rfl rfl), (mt4 235 rfl rfl), (mt4 236 rfl rfl), by decide⟩
theorem lk_11_290 : lOK 11 290 1 m_Lift_prideOfAll := ⟨rfl, by decide, km_Lift_prideOfAll, (mt5 137 rfl rfl), (mt5 138 rfl rfl), (mt5 139 rfl rfl), by decide⟩
theorem lk_11_293 : lOK 11 293 1 m_Scales_fewestCardsTo := ⟨rfl, by decide, km_Scales_fewestCardsTo, (mt5 152 rfl rfl), (mt5 153 rfl rfl), (mt5 154 rfl rfl), by decide⟩
theorem lk_11_297 : lOK 11 297 1 m_Scales_mostRides := ⟨rfl, by decide, km_Scales_mostRides, (mt2 192 rfl rfl), (mt2 193 rfl rfl), (mt2 194 rfl rfl), by decide⟩
theorem lk_11_301 : lOK 11 301 1 m_Scales_bestCouple := ⟨rfl, by decide, km_Scales_bestCouple, (mt5 177 rfl rfl), (mt5 178 rfl rfl), (mt5 179 rfl rfl), by decide⟩
theorem lk_11_304 : lOK 11 304 1 m_Scales_coupleApart := ⟨rfl, by decide, km_Scales_coupleApart, (mt5 187 rfl rfl), (mt5 182 rfl rfl), (mt5 183 rfl rfl), by decide⟩
theorem lk_11_308 : lOK 11 308 1 m_Lift_walkAllTo := ⟨rfl, by decide, km_Lift_walkAllTo, (mt5 195 rfl rfl), (mt5 196 rfl rfl), (mt5 197 rfl rfl), by decide⟩
theorem lk_11_311 : lOK 11 311 1 m_Scales_cheapestCard := ⟨rfl, by decide, km_Scales_cheapestCard, (mt5 206 rfl rfl), (mt5 207 rfl rfl), (mt5 208 rfl rfl), by decide⟩
theorem lk_11_314 : lOK 11 314 1 m_Book_findPairs := ⟨rfl, by decide, km_Book_findPairs, (mt5 217 rfl rfl), (mt5 218 rfl rfl), (mt5 219 rfl rfl), by decide⟩
theorem lk_11_317 : lOK 11 317 1 m_Book_firstPair := ⟨rfl, by decide, km_Book_firstPair, (mt5 235 rfl rfl), (mt5 236 rfl rfl), (mt5 237 rfl rfl), by decide⟩
theorem lk_11_320 : lOK 11 320 1 m_Book_hasLine := ⟨rfl, by decide, km_Book_hasLine, (mt6 6 rfl rfl), (mt5 21 rfl rfl), (mt5 22 rfl rfl), by decide⟩
theorem lk_11_323 : lOK 11 323 1 m_Book_leftAtWorst := ⟨rfl, by decide, km_Book_leftAtWorst, (mt6 7 rfl rfl), (mt6 8 rfl rfl), (mt6 9 rfl rfl), by decide⟩
theorem lk_11_326 : lOK 11 326 1 m_Scales_waysWithoutRun := ⟨rfl, by decide, km_Scales_waysWithoutRun, (mt6 23 rfl rfl), (mt6 24 rfl rfl), (mt6 25 rfl rfl), by decide⟩
theorem lk_11_332 : lOK 11 332 0 m_PL_isRest := ⟨rfl, km_PL_isRest, (mt6 46 rfl rfl), (mt6 47 rfl rfl)⟩
theorem lk_11_336 : lOK 11 336 0 m_PL_flattererHas := ⟨rfl, km_PL_flattererHas, (mt6 49 rfl rfl), (mt6 50 rfl rfl)⟩
theorem lk_11_340 : lOK 11 340 1 m_PL_isSetOfMen := ⟨rfl, by decide, km_PL_isSetOfMen, (mt6 59 rfl rfl), (mt6 61 rfl rfl), (mt0 30 rfl rfl), by decide⟩
theorem lk_11_343 : lOK 11 343 0 m_PL_isIn := ⟨rfl, km_PL_isIn, (mt6 63 rfl rfl), (mt2 201 rfl rfl)⟩
theorem lk_11_347 : lOK 11 347 1 m_Lift_breathBound := ⟨rfl, by decide, km_Lift_breathBound, (mt6 64 rfl rfl), (mt6 65 rfl rfl), (mt6 66 rfl rfl), by decide⟩
theorem lk_11_350 : lOK 11 350 11 m_PL_at := (mt2 182 rfl rfl)
theorem lk_11_355 : lOK 11 355 1 m_Lift_canEnter := ⟨rfl, by decide, km_Lift_canEnter, (mt2 231 rfl rfl), (mt2 232 rfl rfl), (mt2 233 rfl rfl), by decide⟩
theorem lk_11_358 : lOK 11 358 1 m_Lift_mostSwelling := ⟨rfl, by decide, km_Lift_mostSwelling, (mt6 93 rfl rfl), (mt6 94 rfl rfl), (mt6 95 rfl rfl), by decide⟩
theorem lk_11_361 : lOK 11 361 1 m_PL_cardOrSwell := ⟨rfl, by decide, km_PL_cardOrSwell, (mt6 97 rfl rfl), (mt6 99 rfl rfl), (mt0 32 rfl rfl), by decide⟩
theorem lk_11_365 : lOK 11 365 1 m_Lift_sayTo := ⟨rfl, by decide, km_Lift_sayTo, (mt6 143 rfl rfl), (mt4 158 rfl rfl), (mt4 159 rfl rfl), by decide⟩
theorem lk_11_368 : lOK 11 368 1 m_Week_live := ⟨rfl, by decide, km_Week_live, (mt6 151 rfl rfl), (mt6 152 rfl rfl), (mt6 153 rfl rfl), by decide⟩
theorem lk_11_371 : lOK 11 371 1 m_Lift_ridesOfAll := ⟨rfl, by decide, km_Lift_ridesOfAll, (mt6 170 rfl rfl), (mt6 171 rfl rfl), (mt6 172 rfl rfl), by decide⟩
theorem lk_11_374 : lOK 11 374 12 m_PL_at := (mt6 181 rfl rfl)
theorem lk_11_377 : lOK 11 377 1 m_Past_keepImage := ⟨rfl, by decide, km_Past_keepImage, (mt3 21 rfl rfl), (mt3 22 rfl rfl), (mt3 23 rfl rfl), by decide⟩
theorem lk_11_380 : lOK 11 380 1 m_Past_restoreImage := ⟨rfl, by decide, km_Past_restoreImage, (mt3 52 rfl rfl), (mt3 53 rfl rfl), (mt3 54 rfl rfl), by decide⟩
theorem lk_11_393 : lOK 11 393 1 m_Reader_open := ⟨rfl, by decide, km_Reader_open, (mt3 149 rfl rfl), (mt3 150 rfl rfl), (mt3 151 rfl rfl), by decide⟩
theorem lk_11_400 : lOK 11 400 1 m_PL_needSomebody := ⟨rfl, by decide, km_PL_needSomebody, (mt5 51 rfl rfl), (mt5 53 rfl rfl), (mt0 20 rfl rfl), by decide⟩
theorem lk_11_415 : lOK 11 415 8 m_PL_at := (mt2 185 rfl rfl)
theorem lk_0_3 : lOK 0 3 7 m_PL_at := (mt2 85 rfl rfl)
theorem lk_0_34 : lOK 0 34 1 m_Book_wipe := ⟨rfl, by decide, km_Book_wipe, (mt5 16 rfl rfl), (mt4 41 rfl rfl), (mt4 42 rfl rfl), by decide⟩
theorem lk_0_37 : lOK 0 37 1 m_Reader_failed := ⟨rfl, by decide, km_Reader_failed, (mt5 17 rfl rfl), (mt3 161 rfl rfl), (mt3 162 rfl rfl), by decide⟩
theorem lk_0_43 : lOK 0 43 1 m_Reader_peek := ⟨rfl, by decide, km_Reader_peek, (mt5 18 rfl rfl), (mt3 165 rfl rfl), (mt3 166 rfl rfl), by decide⟩
theorem lk_0_50 : lOK 0 50 1 m_Reader_readNumber := ⟨rfl, by decide, km_Reader_readNumber, (mt5 19 rfl rfl), (mt4 7 rfl rfl), (mt4 8 rfl rfl), by decide⟩
theorem lk_0_54 : lOK 0 54 1 m_Book_hasLine := ⟨rfl, by decide, km_Book_hasLine, (mt5 20 rfl rfl), (mt5 21 rfl rfl), (mt5 22 rfl rfl), by decide⟩
theorem lk_0_58 : lOK 0 58 1 m_Reader_blame := ⟨rfl, by decide, km_Reader_blame, (mt5 25 rfl rfl), (mt3 234 rfl rfl), (mt3 235 rfl rfl), by decide⟩
theorem lk_0_62 : lOK 0 62 1 m_Reader_needSign := ⟨rfl, by decide, km_Reader_needSign, (mt5 26 rfl rfl), (mt4 24 rfl rfl), (mt4 25 rfl rfl), by decide⟩
theorem lk_0_66 : lOK 0 66 4 m_PL_put := ⟨rfl, km_PL_put, (mn5 27 rfl rfl), (mt2 211 rfl rfl)⟩
theorem lk_0_70 : lOK 0 70 4 m_PL_isIn := ⟨rfl, km_PL_isIn, (mn5 24 rfl rfl), (mt2 201 rfl rfl)⟩
theorem lk_0_83 : lOK 0 83 1 m_Book_areOthersRight := ⟨rfl, by decide, km_Book_areOthersRight, (mt5 221 rfl rfl), (mt5 223 rfl rfl), (mt0 25 rfl rfl), by decide⟩
theorem lk_0_90 : lOK 0 90 1 m_Lift_heavyIfSaid := ⟨rfl, by decide, km_Lift_heavyIfSaid, (mt5 227 rfl rfl), (mt5 228 rfl rfl), (mt5 229 rfl rfl), by decide⟩
theorem lk_0_93 : lOK 0 93 4 m_PL_at := ⟨rfl, km_PL_at, (mn5 225 rfl rfl), (mt2 208 rfl rfl)⟩
theorem lk_0_97 : lOK 0 97 1 m_Book_keepPair := ⟨rfl, by decide, km_Book_keepPair, (mt5 231 rfl rfl), (mt5 233 rfl rfl), (mt0 26 rfl rfl), by decide⟩
theorem lk_0_101 : lOK 0 101 1 m_Lift_heavyOf := ⟨rfl, by decide, km_Lift_heavyOf, (mt5 226 rfl rfl), (mt2 204 rfl rfl), (mt2 205 rfl rfl), by decide⟩
theorem lk_0_105 : lOK 0 105 1 m_Book_heavyByPair := ⟨rfl, by decide, km_Book_heavyByPair, (mt6 11 rfl rfl), (mt6 13 rfl rfl), (mt0 27 rfl rfl), by decide⟩
theorem lk_0_109 : lOK 0 109 12 m_PL_at := (mt6 15 rfl rfl)
theorem lk_1_3 : lOK 1 3 7 m_PL_at := (mt1 173 rfl rfl)
theorem lk_1_40 : lOK 1 40 4 m_PL_copyRow := ⟨rfl, km_PL_copyRow, (mn2 179 rfl rfl), (mt2 180 rfl rfl)⟩
theorem lk_1_44 : lOK 1 44 0 m_Arrays_fill := ⟨rfl, km_Arrays_fill, (mt4 37 rfl rfl), (mt4 38 rfl rfl)⟩
theorem lk_1_50 : lOK 1 50 4 m_PL_at := ⟨rfl, km_PL_at, (mn4 165 rfl rfl), (mt2 208 rfl rfl)⟩
theorem lk_1_54 : lOK 1 54 1 m_Days_timesHeard := ⟨rfl, by decide, km_Days_timesHeard, (mt4 199 rfl rfl), (mt4 162 rfl rfl), (mt4 163 rfl rfl), by decide⟩
theorem lk_1_58 : lOK 1 58 4 m_PL_put := ⟨rfl, km_PL_put, (mn4 200 rfl rfl), (mt2 211 rfl rfl)⟩
theorem lk_2_3 : lOK 2 3 7 m_PL_at := (mt1 80 rfl rfl)
theorem lk_2_40 : lOK 2 40 1 m_Reader_failed := ⟨rfl, by decide, km_Reader_failed, (mt3 160 rfl rfl), (mt3 161 rfl rfl), (mt3 162 rfl rfl), by decide⟩
theorem lk_2_46 : lOK 2 46 1 m_Reader_peek := ⟨rfl, by decide, km_Reader_peek, (mt3 164 rfl rfl), (mt3 165 rfl rfl), (mt3 166 rfl rfl), by decide⟩
theorem lk_2_52 : lOK 2 52 1 m_Reader_readWord := ⟨rfl, by decide, km_Reader_readWord, (mt3 173 rfl rfl), (mt3 174 rfl rfl), (mt3 175 rfl rfl), by decide⟩
theorem lk_2_59 : lOK 2 59 1 m_Reader_blame := ⟨rfl, by decide, km_Reader_blame, (mt3 237 rfl rfl), (mt3 234 rfl rfl), (mt3 235 rfl rfl), by decide⟩
theorem lk_2_63 : lOK 2 63 1 m_House_readClause := ⟨rfl, by decide, km_House_readClause, (mt3 238 rfl rfl), (mt4 0 rfl rfl), (mt0 6 rfl rfl), by decide⟩
theorem lk_2_67 : lOK 2 67 1 m_Reader_needSign := ⟨rfl, by decide, km_Reader_needSign, (mt4 23 rfl rfl), (mt4 24 rfl rfl), (mt4 25 rfl rfl), by decide⟩
theorem lk_2_71 : lOK 2 71 1 m_House_readFloors := ⟨rfl, by decide, km_House_readFloors, (mt4 2 rfl rfl), (mt4 4 rfl rfl), (mt0 7 rfl rfl), by decide⟩
theorem lk_2_75 : lOK 2 75 1 m_House_readMan := ⟨rfl, by decide, km_House_readMan, (mt4 14 rfl rfl), (mt4 16 rfl rfl), (mt0 8 rfl rfl), by decide⟩
theorem lk_2_78 : lOK 2 78 1 m_House_readCard := ⟨rfl, by decide, km_House_readCard, (mt4 19 rfl rfl), (mt4 21 rfl rfl), (mt0 9 rfl rfl), by decide⟩
theorem lk_2_81 : lOK 2 81 1 m_Reader_readNumber := ⟨rfl, by decide, km_Reader_readNumber, (mt4 6 rfl rfl), (mt4 7 rfl rfl), (mt4 8 rfl rfl), by decide⟩
theorem lk_2_85 : lOK 2 85 4 m_PL_put := ⟨rfl, km_PL_put, (mn4 18 rfl rfl), (mt2 211 rfl rfl)⟩
theorem lk_3_3 : lOK 3 3 7 m_PL_at := (mt3 29 rfl rfl)
theorem lk_3_11 : lOK 3 11 3 m_Days_init := ⟨rfl, by decide, km_Days_init, (mn3 31 rfl rfl), (mt1 171 rfl rfl), rfl, rfl, by decide⟩
theorem lk_4_3 : lOK 4 3 7 m_PL_at := (mt1 142 rfl rfl)
theorem lk_4_25 : lOK 4 25 1 m_Law_setUsual := ⟨rfl, by decide, km_Law_setUsual, (mt1 143 rfl rfl), (mt1 144 rfl rfl), (mt1 145 rfl rfl), by decide⟩
theorem lk_4_28 : lOK 4 28 1 m_Law_wipe := ⟨rfl, by decide, km_Law_wipe, (mt1 147 rfl rfl), (mt1 148 rfl rfl), (mt1 149 rfl rfl), by decide⟩
theorem lk_4_31 : lOK 4 31 1 m_Law_putCode := ⟨rfl, by decide, km_Law_putCode, (mt1 151 rfl rfl), (mt1 153 rfl rfl), (mt0 0 rfl rfl), by decide⟩
theorem lk_4_35 : lOK 4 35 1 m_Law_readProduct := ⟨rfl, by decide, km_Law_readProduct, (mt4 64 rfl rfl), (mt4 66 rfl rfl), (mt0 11 rfl rfl), by decide⟩
theorem lk_4_39 : lOK 4 39 1 m_Reader_failed := ⟨rfl, by decide, km_Reader_failed, (mt4 88 rfl rfl), (mt3 161 rfl rfl), (mt3 162 rfl rfl), by decide⟩
theorem lk_4_45 : lOK 4 45 1 m_Reader_peek := ⟨rfl, by decide, km_Reader_peek, (mt4 72 rfl rfl), (mt3 165 rfl rfl), (mt3 166 rfl rfl), by decide⟩
theorem lk_4_49 : lOK 4 49 1 m_Reader_needSign := ⟨rfl, by decide, km_Reader_needSign, (mt4 78 rfl rfl), (mt4 24 rfl rfl), (mt4 25 rfl rfl), by decide⟩
theorem lk_4_52 : lOK 4 52 1 m_Law_readUnit := ⟨rfl, by decide, km_Law_readUnit, (mt4 68 rfl rfl), (mt4 70 rfl rfl), (mt0 12 rfl rfl), by decide⟩
theorem lk_4_55 : lOK 4 55 1 m_Law_readBracket := ⟨rfl, by decide, km_Law_readBracket, (mt4 73 rfl rfl), (mt4 75 rfl rfl), (mt0 13 rfl rfl), by decide⟩
theorem lk_4_58 : lOK 4 58 0 m_Reader_isDigit := ⟨rfl, km_Reader_isDigit, (mt4 80 rfl rfl), (mt4 11 rfl rfl)⟩
theorem lk_4_62 : lOK 4 62 1 m_Reader_readNumber := ⟨rfl, by decide, km_Reader_readNumber, (mt4 81 rfl rfl), (mt4 7 rfl rfl), (mt4 8 rfl rfl), by decide⟩
theorem lk_4_68 : lOK 4 68 1 m_Reader_readWord := ⟨rfl, by decide, km_Reader_readWord, (mt4 83 rfl rfl), (mt3 174 rfl rfl), (mt3 175 rfl rfl), by decide⟩
theorem lk_4_72 : lOK 4 72 1 m_Law_readChoice := ⟨rfl, by decide, km_Law_readChoice, (mt4 84 rfl rfl), (mt4 86 rfl rfl), (mt0 14 rfl rfl), by decide⟩
theorem lk_4_79 : lOK 4 79 1 m_Reader_blame := ⟨rfl, by decide, km_Reader_blame, (mt4 77 rfl rfl), (mt3 234 rfl rfl), (mt3 235 rfl rfl), by decide⟩
theorem lk_4_83 : lOK 4 83 1 m_Law_readSum := ⟨rfl, by decide, km_Law_readSum, (mt4 79 rfl rfl), (mt4 61 rfl rfl), (mt4 62 rfl rfl), by decide⟩
theorem lk_4_89 : lOK 4 89 4 m_PL_put := ⟨rfl, km_PL_put, (mn4 174 rfl rfl), (mt2 211 rfl rfl)⟩
theorem lk_4_93 : lOK 4 93 4 m_PL_at := ⟨rfl, km_PL_at, (mn4 188 rfl rfl), (mt2 208 rfl rfl)⟩
theorem lk_4_97 : lOK 4 97 0 m_Law_join := ⟨rfl, km_Law_join, (mt4 189 rfl rfl), (mt4 190 rfl rfl)⟩
theorem lk_4_101 : lOK 4 101 11 m_PL_at := (mt4 192 rfl rfl)
theorem lk_4_106 : lOK 4 106 12 m_PL_at := (mt4 193 rfl rfl)
theorem lk_5_3 : lOK 5 3 7 m_PL_at := (mt1 74 rfl rfl)
theorem lk_5_11 : lOK 5 11 3 m_House_init := ⟨rfl, by decide, km_House_init, (mn1 77 rfl rfl), (mt1 78 rfl rfl), rfl, rfl, by decide⟩
theorem lk_5_20 : lOK 5 20 2 m_Law_init := ⟨rfl, by decide, km_Law_init, (mt1 139 rfl rfl), (mt1 140 rfl rfl), rfl, rfl, by decide⟩
theorem lk_5_27 : lOK 5 27 3 m_Days_init := ⟨rfl, by decide, km_Days_init, (mn1 170 rfl rfl), (mt1 171 rfl rfl), rfl, rfl, by decide⟩
theorem lk_5_32 : lOK 5 32 1 m_Law_setUsual := ⟨rfl, by decide, km_Law_setUsual, (mt4 32 rfl rfl), (mt1 144 rfl rfl), (mt1 145 rfl rfl), by decide⟩
theorem lk_5_35 : lOK 5 35 1 m_Days_beginIn := ⟨rfl, by decide, km_Days_beginIn, (mt4 33 rfl rfl), (mt4 34 rfl rfl), (mt4 35 rfl rfl), by decide⟩
theorem lk_5_39 : lOK 5 39 1 m_Days_takeFrom := ⟨rfl, by decide, km_Days_takeFrom, (mt5 135 rfl rfl), (mt2 176 rfl rfl), (mt2 177 rfl rfl), by decide⟩
theorem lk_5_47 : lOK 5 47 4 m_PL_isIn := ⟨rfl, km_PL_isIn, (mn2 200 rfl rfl), (mt2 201 rfl rfl)⟩
theorem lk_5_51 : lOK 5 51 1 m_Lift_isInside := ⟨rfl, by decide, km_Lift_isInside, (mt2 235 rfl rfl), (mt2 236 rfl rfl), (mt2 237 rfl rfl), by decide⟩
theorem lk_5_62 : lOK 5 62 4 m_PL_at := ⟨rfl, km_PL_at, (mn2 207 rfl rfl), (mt2 208 rfl rfl)⟩
theorem lk_5_75 : lOK 5 75 1 m_Lift_heavyOf := ⟨rfl, by decide, km_Lift_heavyOf, (mt2 203 rfl rfl), (mt2 204 rfl rfl), (mt2 205 rfl rfl), by decide⟩
theorem lk_5_79 : lOK 5 79 1 m_Lift_heavyOfSet := ⟨rfl, by decide, km_Lift_heavyOfSet, (mt3 8 rfl rfl), (mt2 197 rfl rfl), (mt2 198 rfl rfl), by decide⟩
theorem lk_5_82 : lOK 5 82 1 m_Lift_sumOfMen := ⟨rfl, by decide, km_Lift_sumOfMen, (mt5 141 rfl rfl), (mt5 143 rfl rfl), (mt0 22 rfl rfl), by decide⟩
theorem lk_5_89 : lOK 5 89 1 m_Days_timesHeard := ⟨rfl, by decide, km_Days_timesHeard, (mt4 161 rfl rfl), (mt4 162 rfl rfl), (mt4 163 rfl rfl), by decide⟩
theorem lk_5_102 : lOK 5 102 1 m_Lift_isLie := ⟨rfl, by decide, km_Lift_isLie, (mt4 201 rfl rfl), (mt4 202 rfl rfl), (mt4 203 rfl rfl), by decide⟩
theorem lk_5_108 : lOK 5 108 1 m_Law_tellWords := ⟨rfl, by decide, km_Law_tellWords, (mt4 170 rfl rfl), (mt4 171 rfl rfl), (mt4 172 rfl rfl), by decide⟩
theorem lk_5_112 : lOK 5 112 1 m_Law_tellMan := ⟨rfl, by decide, km_Law_tellMan, (mt4 175 rfl rfl), (mt4 176 rfl rfl), (mt4 177 rfl rfl), by decide⟩
theorem lk_5_115 : lOK 5 115 1 m_Lift_placeOf := ⟨rfl, by decide, km_Lift_placeOf, (mt4 179 rfl rfl), (mt3 14 rfl rfl), (mt3 15 rfl rfl), by decide⟩
theorem lk_5_118 : lOK 5 118 1 m_Law_tellWhere := ⟨rfl, by decide, km_Law_tellWhere, (mt4 180 rfl rfl), (mt4 181 rfl rfl), (mt4 182 rfl rfl), by decide⟩
theorem lk_5_121 : lOK 5 121 1 m_Law_swellByFacts := ⟨rfl, by decide, km_Law_swellByFacts, (mt4 184 rfl rfl), (mt4 185 rfl rfl), (mt4 186 rfl rfl), by decide⟩
theorem lk_5_125 : lOK 5 125 1 m_Lift_swellOf := ⟨rfl, by decide, km_Lift_swellOf, (mt4 166 rfl rfl), (mt4 167 rfl rfl), (mt4 168 rfl rfl), by decide⟩
theorem lk_5_128 : lOK 5 128 11 m_PL_at := (mt4 194 rfl rfl)
theorem lk_5_136 : lOK 5 136 13 m_PL_at := (mt4 218 rfl rfl)
theorem lk_5_142 : lOK 5 142 12 m_PL_at := (mt4 221 rfl rfl)
theorem lk_5_145 : lOK 5 145 1 m_Lift_goesFrom := ⟨rfl, by decide, km_Lift_goesFrom, (mt4 214 rfl rfl), (mt4 215 rfl rfl), (mt4 216 rfl rfl), by decide⟩
theorem lk_5_148 : lOK 5 148 1 m_Lift_loadNow := ⟨rfl, by decide, km_Lift_loadNow, (mt4 213 rfl rfl), (mt3 5 rfl rfl), (mt3 6 rfl rfl), by decide⟩
theorem lk_5_151 : lOK 5 151 1 m_Lift_givenBy := ⟨rfl, by decide, km_Lift_givenBy, (mt6 68 rfl rfl), (mt6 70 rfl rfl), (mt0 31 rfl rfl), by decide⟩
theorem lk_5_154 : lOK 5 154 0 m_Integer_bitCount := ⟨rfl, km_Integer_bitCount, (mt2 239 rfl rfl), (mt2 219 rfl rfl)⟩
theorem lk_5_159 : lOK 5 159 1 m_Lift_canEnter := ⟨rfl, by decide, km_Lift_canEnter, (mt4 151 rfl rfl), (mt2 232 rfl rfl), (mt2 233 rfl rfl), by decide⟩
theorem lk_5_162 : lOK 5 162 4 m_PL_put := ⟨rfl, km_PL_put, (mn4 156 rfl rfl), (mt2 211 rfl rfl)⟩
theorem lk_5_166 : lOK 5 166 1 m_Days_hearOnceMore := ⟨rfl, by decide, km_Days_hearOnceMore, (mt4 195 rfl rfl), (mt4 196 rfl rfl), (mt4 197 rfl rfl), by decide⟩
theorem lk_5_176 : lOK 5 176 1 m_Lift_sleep := ⟨rfl, by decide, km_Lift_sleep, (mt4 230 rfl rfl), (mt4 231 rfl rfl), (mt4 232 rfl rfl), by decide⟩
theorem lk_5_179 : lOK 5 179 1 m_Lift_halvePrides := ⟨rfl, by decide, km_Lift_halvePrides, (mt4 234 rfl rfl), (mt4 235 rfl rfl), (mt4 236 rfl rfl), by decide⟩
theorem lk_5_182 : lOK 5 182 1 m_Lift_letOut := ⟨rfl, by decide, km_Lift_letOut, (mt4 238 rfl rfl), (mt4 153 rfl rfl), (mt4 154 rfl rfl), by decide⟩
theorem lk_5_188 : lOK 5 188 0 m_Arrays_fill := ⟨rfl, km_Arrays_fill, (mt4 239 rfl rfl), (mt4 38 rfl rfl)⟩
theorem lk_6_3 : lOK 6 3 7 m_PL_at := (mt2 28 rfl rfl)
theorem lk_6_30 : lOK 6 30 3 m_Days_init := ⟨rfl, by decide, km_Days_init, (mn4 133 rfl rfl), (mt1 171 rfl rfl), rfl, rfl, by decide⟩
theorem lk_6_31 : lOK 6 31 1 m_Days_takeFrom := ⟨rfl, by decide, km_Days_takeFrom, (mt2 175 rfl rfl), (mt2 176 rfl rfl), (mt2 177 rfl rfl), by decide⟩
theorem lk_6_35 : lOK 6 35 2 m_Image_init := ⟨rfl, by decide, km_Image_init, (mt3 26 rfl rfl), (mt3 27 rfl rfl), rfl, rfl, by decide⟩
theorem lk_6_43 : lOK 6 43 0 m_Past_copyKept := ⟨rfl, km_Past_copyKept, (mt3 45 rfl rfl), (mt3 46 rfl rfl)⟩
theorem lk_7_3 : lOK 7 3 7 m_PL_at := (mt1 40 rfl rfl)
theorem lk_7_31 : lOK 7 31 11 m_PL_at := (mt3 153 rfl rfl)
theorem lk_7_37 : lOK 7 37 1 m_Reader_byteAt := ⟨rfl, by decide, km_Reader_byteAt, (mt3 168 rfl rfl), (mt3 169 rfl rfl), (mt3 170 rfl rfl), by decide⟩
theorem lk_7_41 : lOK 7 41 1 m_Reader_peek := ⟨rfl, by decide, km_Reader_peek, (mt3 177 rfl rfl), (mt3 165 rfl rfl), (mt3 166 rfl rfl), by decide⟩
theorem lk_7_45 : lOK 7 45 1 m_Reader_blame := ⟨rfl, by decide, km_Reader_blame, (mt3 233 rfl rfl), (mt3 234 rfl rfl), (mt3 235 rfl rfl), by decide⟩
theorem lk_7_49 : lOK 7 49 0 m_Reader_isDigit := ⟨rfl, km_Reader_isDigit, (mt4 10 rfl rfl), (mt4 11 rfl rfl)⟩
theorem lk_7_54 : lOK 7 54 0 m_Reader_isLetter := ⟨rfl, km_Reader_isLetter, (mt3 178 rfl rfl), (mt3 179 rfl rfl)⟩
theorem lk_7_57 : lOK 7 57 9 m_PL_at := (mt3 181 rfl rfl)
theorem lk_7_61 : lOK 7 61 10 m_PL_at := (mt3 191 rfl rfl)
theorem lk_7_65 : lOK 7 65 1 m_Reader_isWordLike := ⟨rfl, by decide, km_Reader_isWordLike, (mt3 229 rfl rfl), (mt3 230 rfl rfl), (mt3 231 rfl rfl), by decide⟩
theorem lk_8_3 : lOK 8 3 7 m_PL_at := (mt2 53 rfl rfl)
theorem lk_8_37 : lOK 8 37 1 m_Lift_heavyOfSet := ⟨rfl, by decide, km_Lift_heavyOfSet, (mt2 196 rfl rfl), (mt2 197 rfl rfl), (mt2 198 rfl rfl), by decide⟩
theorem lk_8_41 : lOK 8 41 4 m_PL_put := ⟨rfl, km_PL_put, (mn2 210 rfl rfl), (mt2 211 rfl rfl)⟩
theorem lk_8_48 : lOK 8 48 1 m_Scales_mostRidesOf := ⟨rfl, by decide, km_Scales_mostRidesOf, (mt2 213 rfl rfl), (mt2 215 rfl rfl), (mt0 2 rfl rfl), by decide⟩
theorem lk_8_52 : lOK 8 52 4 m_PL_at := ⟨rfl, km_PL_at, (mn2 217 rfl rfl), (mt2 208 rfl rfl)⟩
theorem lk_8_56 : lOK 8 56 0 m_Integer_bitCount := ⟨rfl, km_Integer_bitCount, (mt2 218 rfl rfl), (mt2 219 rfl rfl)⟩
theorem lk_8_61 : lOK 8 61 12 m_PL_at := (mt2 224 rfl rfl)
theorem lk_8_66 : lOK 8 66 1 m_Scales_coupleApart := ⟨rfl, by decide, km_Scales_coupleApart, (mt5 181 rfl rfl), (mt5 182 rfl rfl), (mt5 183 rfl rfl), by decide⟩
theorem lk_8_70 : lOK 8 70 1 m_Lift_heavyOf := ⟨rfl, by decide, km_Lift_heavyOf, (mt5 185 rfl rfl), (mt2 204 rfl rfl), (mt2 205 rfl rfl), by decide⟩
theorem lk_8_72 : lOK 8 72 13 m_PL_at := (mt5 186 rfl rfl)
theorem lk_8_87 : lOK 8 87 1 m_Scales_mostSwellInside := ⟨rfl, by decide, km_Scales_mostSwellInside, (mt5 156 rfl rfl), (mt5 158 rfl rfl), (mt0 23 rfl rfl), by decide⟩
theorem lk_8_91 : lOK 8 91 1 m_Lift_loadNow := ⟨rfl, by decide, km_Lift_loadNow, (mt5 163 rfl rfl), (mt3 5 rfl rfl), (mt3 6 rfl rfl), by decide⟩
theorem lk_8_98 : lOK 8 98 1 m_Scales_swellOfSet := ⟨rfl, by decide, km_Scales_swellOfSet, (mt5 164 rfl rfl), (mt5 166 rfl rfl), (mt0 24 rfl rfl), by decide⟩
theorem lk_8_101 : lOK 8 101 1 m_Lift_goesFrom := ⟨rfl, by decide, km_Lift_goesFrom, (mt5 169 rfl rfl), (mt4 215 rfl rfl), (mt4 216 rfl rfl), by decide⟩
theorem lk_8_104 : lOK 8 104 1 m_Lift_isInside := ⟨rfl, by decide, km_Lift_isInside, (mt5 160 rfl rfl), (mt2 236 rfl rfl), (mt2 237 rfl rfl), by decide⟩
theorem lk_8_108 : lOK 8 108 1 m_Days_timesHeard := ⟨rfl, by decide, km_Days_timesHeard, (mt5 161 rfl rfl), (mt4 162 rfl rfl), (mt4 163 rfl rfl), by decide⟩
theorem lk_8_111 : lOK 8 111 1 m_Lift_swellOf := ⟨rfl, by decide, km_Lift_swellOf, (mt5 162 rfl rfl), (mt4 167 rfl rfl), (mt4 168 rfl rfl), by decide⟩
theorem lk_8_114 : lOK 8 114 4 m_PL_isIn := ⟨rfl, km_PL_isIn, (mn5 168 rfl rfl), (mt2 201 rfl rfl)⟩
theorem lk_8_118 : lOK 8 118 0 m_Arrays_fill2 := ⟨rfl, km_Arrays_fill2, (mt6 27 rfl rfl), (mt6 28 rfl rfl)⟩
theorem lk_8_124 : lOK 8 124 1 m_Scales_setWays := ⟨rfl, by decide, km_Scales_setWays, (mt6 30 rfl rfl), (mt6 32 rfl rfl), (mt0 28 rfl rfl), by decide⟩
theorem lk_8_128 : lOK 8 128 1 m_Scales_waysAt := ⟨rfl, by decide, km_Scales_waysAt, (mt6 34 rfl rfl), (mt6 36 rfl rfl), (mt0 29 rfl rfl), by decide⟩
theorem lk_9_3 : lOK 9 3 7 m_PL_at := (mt2 73 rfl rfl)
theorem lk_9_15 : lOK 9 15 1 m_Week_doOnce := ⟨rfl, by decide, km_Week_doOnce, (mt6 155 rfl rfl), (mt6 157 rfl rfl), (mt0 33 rfl rfl), by decide⟩
theorem lk_9_19 : lOK 9 19 1 m_Lift_sleep := ⟨rfl, by decide, km_Lift_sleep, (mt6 169 rfl rfl), (mt4 231 rfl rfl), (mt4 232 rfl rfl), by decide⟩
theorem lk_9_36 : lOK 9 36 1 m_Week_draw := ⟨rfl, by decide, km_Week_draw, (mt6 159 rfl rfl), (mt6 161 rfl rfl), (mt0 34 rfl rfl), by decide⟩
theorem lk_9_40 : lOK 9 40 1 m_Lift_sayTo := ⟨rfl, by decide, km_Lift_sayTo, (mt6 164 rfl rfl), (mt4 158 rfl rfl), (mt4 159 rfl rfl), by decide⟩
theorem lk_9_44 : lOK 9 44 1 m_Lift_letIn := ⟨rfl, by decide, km_Lift_letIn, (mt6 165 rfl rfl), (mt4 148 rfl rfl), (mt4 149 rfl rfl), by decide⟩
theorem lk_9_48 : lOK 9 48 1 m_Lift_letOut := ⟨rfl, by decide, km_Lift_letOut, (mt6 166 rfl rfl), (mt4 153 rfl rfl), (mt4 154 rfl rfl), by decide⟩
theorem lk_9_51 : lOK 9 51 1 m_Lift_goOnce := ⟨rfl, by decide, km_Lift_goOnce, (mt6 167 rfl rfl), (mt4 210 rfl rfl), (mt4 211 rfl rfl), by decide⟩
theorem lk_9_55 : lOK 9 55 1 m_Lift_insultOne := ⟨rfl, by decide, km_Lift_insultOne, (mt6 168 rfl rfl), (mt4 206 rfl rfl), (mt4 207 rfl rfl), by decide⟩
theorem lk_10_3 : lOK 10 3 7 m_PL_at := (mt1 237 rfl rfl)
theorem lk_10_36 : lOK 10 36 1 m_Reader_failed := ⟨rfl, by decide, km_Reader_failed, (mt4 112 rfl rfl), (mt3 161 rfl rfl), (mt3 162 rfl rfl), by decide⟩
theorem lk_10_40 : lOK 10 40 1 m_Reader_peek := ⟨rfl, by decide, km_Reader_peek, (mt4 113 rfl rfl), (mt3 165 rfl rfl), (mt3 166 rfl rfl), by decide⟩
theorem lk_10_44 : lOK 10 44 1 m_Work_readStep := ⟨rfl, by decide, km_Work_readStep, (mt4 114 rfl rfl), (mt4 116 rfl rfl), (mt0 15 rfl rfl), by decide⟩
theorem lk_10_48 : lOK 10 48 1 m_Reader_needSign := ⟨rfl, by decide, km_Reader_needSign, (mt4 127 rfl rfl), (mt4 24 rfl rfl), (mt4 25 rfl rfl), by decide⟩
theorem lk_10_54 : lOK 10 54 1 m_Reader_readWord := ⟨rfl, by decide, km_Reader_readWord, (mt4 119 rfl rfl), (mt3 174 rfl rfl), (mt3 175 rfl rfl), by decide⟩
theorem lk_10_58 : lOK 10 58 4 m_PL_put := ⟨rfl, km_PL_put, (mn4 120 rfl rfl), (mt2 211 rfl rfl)⟩
theorem lk_10_67 : lOK 10 67 1 m_Reader_readNumber := ⟨rfl, by decide, km_Reader_readNumber, (mt4 121 rfl rfl), (mt4 7 rfl rfl), (mt4 8 rfl rfl), by decide⟩
theorem lk_10_77 : lOK 10 77 1 m_Work_readAgain := ⟨rfl, by decide, km_Work_readAgain, (mt4 122 rfl rfl), (mt4 124 rfl rfl), (mt0 16 rfl rfl), by decide⟩
theorem lk_10_84 : lOK 10 84 1 m_Reader_blame := ⟨rfl, by decide, km_Reader_blame, (mt4 126 rfl rfl), (mt3 234 rfl rfl), (mt3 235 rfl rfl), by decide⟩
theorem lk_10_88 : lOK 10 88 1 m_Work_readSteps := ⟨rfl, by decide, km_Work_readSteps, (mt4 128 rfl rfl), (mt4 109 rfl rfl), (mt4 110 rfl rfl), by decide⟩
theorem lk_10_91 : lOK 10 91 4 m_PL_at := ⟨rfl, km_PL_at, (mn4 138 rfl rfl), (mt2 208 rfl rfl)⟩
theorem lk_10_95 : lOK 10 95 1 m_Work_doAgain := ⟨rfl, by decide, km_Work_doAgain, (mt4 139 rfl rfl), (mt4 141 rfl rfl), (mt0 17 rfl rfl), by decide⟩
theorem lk_10_99 : lOK 10 99 0 m_Work_doStep := ⟨rfl, km_Work_doStep, (mt4 144 rfl rfl), (mt4 145 rfl rfl)⟩
theorem lk_10_103 : lOK 10 103 1 m_Work_behind := ⟨rfl, by decide, km_Work_behind, (mt5 0 rfl rfl), (mt5 2 rfl rfl), (mt0 18 rfl rfl), by decide⟩
theorem lk_10_107 : lOK 10 107 1 m_Work_doSteps := ⟨rfl, by decide, km_Work_doSteps, (mt4 143 rfl rfl), (mt4 135 rfl rfl), (mt4 136 rfl rfl), by decide⟩
theorem lk_10_111 : lOK 10 111 12 m_PL_at := (mt5 4 rfl rfl)
theorem lk_10_116 : lOK 10 116 1 m_Lift_letIn := ⟨rfl, by decide, km_Lift_letIn, (mt4 147 rfl rfl), (mt4 148 rfl rfl), (mt4 149 rfl rfl), by decide⟩
theorem lk_10_122 : lOK 10 122 1 m_Lift_letOut := ⟨rfl, by decide, km_Lift_letOut, (mt4 152 rfl rfl), (mt4 153 rfl rfl), (mt4 154 rfl rfl), by decide⟩
theorem lk_10_125 : lOK 10 125 1 m_Lift_sayTo := ⟨rfl, by decide, km_Lift_sayTo, (mt4 157 rfl rfl), (mt4 158 rfl rfl), (mt4 159 rfl rfl), by decide⟩
theorem lk_10_129 : lOK 10 129 1 m_Lift_insultOne := ⟨rfl, by decide, km_Lift_insultOne, (mt4 205 rfl rfl), (mt4 206 rfl rfl), (mt4 207 rfl rfl), by decide⟩
theorem lk_10_132 : lOK 10 132 1 m_Lift_goOnce := ⟨rfl, by decide, km_Lift_goOnce, (mt4 209 rfl rfl), (mt4 210 rfl rfl), (mt4 211 rfl rfl), by decide⟩
theorem lk_10_135 : lOK 10 135 1 m_Lift_walkTo := ⟨rfl, by decide, km_Lift_walkTo, (mt4 222 rfl rfl), (mt4 223 rfl rfl), (mt4 224 rfl rfl), by decide⟩
theorem lk_10_138 : lOK 10 138 1 m_Lift_nightFalls := ⟨rfl, by decide, km_Lift_nightFalls, (mt4 226 rfl rfl), (mt4 227 rfl rfl), (mt4 228 rfl rfl), by decide⟩
theorem lk_13_7 : lOK 13 7 1 m_PL_house := ⟨rfl, by decide, km_PL_house, (mt3 68 rfl rfl), (mt3 69 rfl rfl), (mt3 70 rfl rfl), by decide⟩
theorem lk_13_15 : lOK 13 15 1 m_PL_law := ⟨rfl, by decide, km_PL_law, (mt4 55 rfl rfl), (mt4 56 rfl rfl), (mt4 57 rfl rfl), by decide⟩
theorem lk_13_18 : lOK 13 18 1 m_PL_work := ⟨rfl, by decide, km_PL_work, (mt4 96 rfl rfl), (mt4 97 rfl rfl), (mt4 98 rfl rfl), by decide⟩
theorem lk_13_21 : lOK 13 21 1 m_PL_book := ⟨rfl, by decide, km_PL_book, (mt5 8 rfl rfl), (mt5 9 rfl rfl), (mt5 10 rfl rfl), by decide⟩
theorem lk_13_24 : lOK 13 24 1 m_PL_told := ⟨rfl, by decide, km_PL_told, (mt5 31 rfl rfl), (mt5 32 rfl rfl), (mt5 33 rfl rfl), by decide⟩
theorem lk_13_27 : lOK 13 27 1 m_PL_man := ⟨rfl, by decide, km_PL_man, (mt5 43 rfl rfl), (mt5 44 rfl rfl), (mt5 45 rfl rfl), by decide⟩
theorem lk_13_33 : lOK 13 33 1 m_PL_card := ⟨rfl, by decide, km_PL_card, (mt5 81 rfl rfl), (mt5 82 rfl rfl), (mt5 83 rfl rfl), by decide⟩
theorem lk_13_36 : lOK 13 36 1 m_PL_heard := ⟨rfl, by decide, km_PL_heard, (mt5 96 rfl rfl), (mt5 97 rfl rfl), (mt5 98 rfl rfl), by decide⟩
theorem lk_13_39 : lOK 13 39 1 m_PL_swells := ⟨rfl, by decide, km_PL_swells, (mt5 104 rfl rfl), (mt5 105 rfl rfl), (mt5 106 rfl rfl), by decide⟩
theorem lk_13_42 : lOK 13 42 1 m_PL_would := ⟨rfl, by decide, km_PL_would, (mt5 112 rfl rfl), (mt5 113 rfl rfl), (mt5 114 rfl rfl), by decide⟩
theorem lk_13_46 : lOK 13 46 1 m_PL_ahead := ⟨rfl, by decide, km_PL_ahead, (mt5 123 rfl rfl), (mt5 124 rfl rfl), (mt5 125 rfl rfl), by decide⟩
theorem lk_13_49 : lOK 13 49 1 m_PL_to := ⟨rfl, by decide, km_PL_to, (mt5 148 rfl rfl), (mt5 149 rfl rfl), (mt5 150 rfl rfl), by decide⟩
theorem lk_13_52 : lOK 13 52 1 m_PL_couple := ⟨rfl, by decide, km_PL_couple, (mt5 173 rfl rfl), (mt5 174 rfl rfl), (mt5 175 rfl rfl), by decide⟩
theorem lk_13_55 : lOK 13 55 1 m_PL_meet := ⟨rfl, by decide, km_PL_meet, (mt5 191 rfl rfl), (mt5 192 rfl rfl), (mt5 193 rfl rfl), by decide⟩
theorem lk_13_58 : lOK 13 58 1 m_PL_cheapest := ⟨rfl, by decide, km_PL_cheapest, (mt5 202 rfl rfl), (mt5 203 rfl rfl), (mt5 204 rfl rfl), by decide⟩
theorem lk_13_61 : lOK 13 61 1 m_PL_fits := ⟨rfl, by decide, km_PL_fits, (mt5 213 rfl rfl), (mt5 214 rfl rfl), (mt5 215 rfl rfl), by decide⟩
theorem lk_13_64 : lOK 13 64 1 m_PL_look := ⟨rfl, by decide, km_PL_look, (mt6 2 rfl rfl), (mt6 3 rfl rfl), (mt6 4 rfl rfl), by decide⟩
theorem lk_13_67 : lOK 13 67 1 m_PL_streak := ⟨rfl, by decide, km_PL_streak, (mt6 19 rfl rfl), (mt6 20 rfl rfl), (mt6 21 rfl rfl), by decide⟩
theorem lk_13_71 : lOK 13 71 1 m_PL_flatter := ⟨rfl, by decide, km_PL_flatter, (mt6 42 rfl rfl), (mt6 43 rfl rfl), (mt6 44 rfl rfl), by decide⟩
theorem lk_13_75 : lOK 13 75 1 m_PL_breath := ⟨rfl, by decide, km_PL_breath, (mt6 55 rfl rfl), (mt6 56 rfl rfl), (mt6 57 rfl rfl), by decide⟩
theorem lk_13_78 : lOK 13 78 1 m_PL_heaviest := ⟨rfl, by decide, km_PL_heaviest, (mt6 75 rfl rfl), (mt6 76 rfl rfl), (mt6 77 rfl rfl), by decide⟩
theorem lk_13_81 : lOK 13 81 1 m_PL_floor := ⟨rfl, by decide, km_PL_floor, (mt6 82 rfl rfl), (mt6 83 rfl rfl), (mt6 84 rfl rfl), by decide⟩
theorem lk_13_84 : lOK 13 84 1 m_PL_sweetest := ⟨rfl, by decide, km_PL_sweetest, (mt6 89 rfl rfl), (mt6 90 rfl rfl), (mt6 91 rfl rfl), by decide⟩
theorem lk_13_87 : lOK 13 87 1 m_PL_truest := ⟨rfl, by decide, km_PL_truest, (mt6 104 rfl rfl), (mt6 105 rfl rfl), (mt6 106 rfl rfl), by decide⟩
theorem lk_13_90 : lOK 13 90 1 m_PL_proud := ⟨rfl, by decide, km_PL_proud, (mt6 111 rfl rfl), (mt6 112 rfl rfl), (mt6 113 rfl rfl), by decide⟩
theorem lk_13_93 : lOK 13 93 1 m_PL_liked := ⟨rfl, by decide, km_PL_liked, (mt6 118 rfl rfl), (mt6 119 rfl rfl), (mt6 120 rfl rfl), by decide⟩
theorem lk_13_96 : lOK 13 96 1 m_PL_above := ⟨rfl, by decide, km_PL_above, (mt6 125 rfl rfl), (mt6 126 rfl rfl), (mt6 127 rfl rfl), by decide⟩
theorem lk_13_99 : lOK 13 99 1 m_PL_ride := ⟨rfl, by decide, km_PL_ride, (mt6 132 rfl rfl), (mt6 133 rfl rfl), (mt6 134 rfl rfl), by decide⟩
theorem lk_13_102 : lOK 13 102 1 m_PL_times := ⟨rfl, by decide, km_PL_times, (mt6 139 rfl rfl), (mt6 140 rfl rfl), (mt6 141 rfl rfl), by decide⟩
theorem lk_13_105 : lOK 13 105 1 m_PL_week := ⟨rfl, by decide, km_PL_week, (mt6 147 rfl rfl), (mt6 148 rfl rfl), (mt6 149 rfl rfl), by decide⟩
theorem lk_13_109 : lOK 13 109 1 m_PL_span := ⟨rfl, by decide, km_PL_span, (mt6 177 rfl rfl), (mt6 178 rfl rfl), (mt6 179 rfl rfl), by decide⟩
theorem lk_13_113 : lOK 13 113 2 m_PL_init := ⟨rfl, by decide, km_PL_init, (mt1 29 rfl rfl), (mt1 30 rfl rfl), rfl, rfl, by decide⟩
theorem lk_13_116 : lOK 13 116 2 m_Mo_init := ⟨rfl, by decide, km_Mo_init, (mt6 188 rfl rfl), (mt6 189 rfl rfl), rfl, rfl, by decide⟩
theorem lk_13_117 : lOK 13 117 1 m_PL_feed := ⟨rfl, by decide, km_PL_feed, (mt2 155 rfl rfl), (mt2 156 rfl rfl), (mt2 157 rfl rfl), by decide⟩
theorem lk_13_121 : lOK 13 121 1 m_Mo_feed := ⟨rfl, by decide, km_Mo_feed, (mt7 118 rfl rfl), (mt7 119 rfl rfl), (mt7 120 rfl rfl), by decide⟩
theorem lk_13_122 : lOK 13 122 6 m_LL_house := ⟨by decide, km_LL_house, (mt3 64 rfl rfl), (mt3 65 rfl rfl)⟩
theorem lk_13_127 : lOK 13 127 1 m_Mo_house := ⟨rfl, by decide, km_Mo_house, (mt7 126 rfl rfl), (mt7 127 rfl rfl), (mt7 128 rfl rfl), by decide⟩
theorem lk_13_128 : lOK 13 128 1 m_Mo_thrown := ⟨rfl, by decide, km_Mo_thrown, (mt6 182 rfl rfl), (mt6 183 rfl rfl), (mt6 184 rfl rfl), by decide⟩
theorem lk_13_132 : lOK 13 132 6 m_LL_law := ⟨by decide, km_LL_law, (mt4 52 rfl rfl), (mt4 53 rfl rfl)⟩
theorem lk_13_134 : lOK 13 134 1 m_Mo_law := ⟨rfl, by decide, km_Mo_law, (mt7 200 rfl rfl), (mt7 201 rfl rfl), (mt7 202 rfl rfl), by decide⟩
theorem lk_13_135 : lOK 13 135 6 m_LL_work := ⟨by decide, km_LL_work, (mt4 93 rfl rfl), (mt4 94 rfl rfl)⟩
theorem lk_13_137 : lOK 13 137 1 m_Mo_work := ⟨rfl, by decide, km_Mo_work, (mt8 2 rfl rfl), (mt8 3 rfl rfl), (mt8 4 rfl rfl), by decide⟩
theorem lk_13_138 : lOK 13 138 6 m_LL_book := ⟨by decide, km_LL_book, (mt5 5 rfl rfl), (mt5 6 rfl rfl)⟩
theorem lk_13_140 : lOK 13 140 1 m_Mo_book := ⟨rfl, by decide, km_Mo_book, (mt8 114 rfl rfl), (mt8 115 rfl rfl), (mt8 116 rfl rfl), by decide⟩
theorem lk_13_141 : lOK 13 141 1 m_PL_fault := ⟨rfl, by decide, km_PL_fault, (mt2 163 rfl rfl), (mt2 164 rfl rfl), (mt2 165 rfl rfl), by decide⟩
theorem lk_13_144 : lOK 13 144 1 m_Mo_fault := ⟨rfl, by decide, km_Mo_fault, (mt7 122 rfl rfl), (mt7 123 rfl rfl), (mt7 124 rfl rfl), by decide⟩
theorem lk_13_145 : lOK 13 145 1 m_PL_undo := ⟨rfl, by decide, km_PL_undo, (mt2 167 rfl rfl), (mt2 168 rfl rfl), (mt2 169 rfl rfl), by decide⟩
theorem lk_13_148 : lOK 13 148 1 m_Mo_undo := ⟨rfl, by decide, km_Mo_undo, (mt8 118 rfl rfl), (mt8 119 rfl rfl), (mt8 120 rfl rfl), by decide⟩
theorem lk_13_149 : lOK 13 149 6 m_LL_told := ⟨by decide, km_LL_told, (mt5 28 rfl rfl), (mt5 29 rfl rfl)⟩
theorem lk_13_151 : lOK 13 151 1 m_Mo_told := ⟨rfl, by decide, km_Mo_told, (mt8 122 rfl rfl), (mt8 123 rfl rfl), (mt8 124 rfl rfl), by decide⟩
theorem lk_13_152 : lOK 13 152 6 m_LL_man := ⟨by decide, km_LL_man, (mt5 39 rfl rfl), (mt5 40 rfl rfl)⟩
theorem lk_13_155 : lOK 13 155 1 m_Mo_man := ⟨rfl, by decide, km_Mo_man, (mt8 137 rfl rfl), (mt8 138 rfl rfl), (mt8 139 rfl rfl), by decide⟩
theorem lk_13_156 : lOK 13 156 6 m_LL_card := ⟨by decide, km_LL_card, (mt5 78 rfl rfl), (mt5 79 rfl rfl)⟩
theorem lk_13_158 : lOK 13 158 1 m_Mo_card := ⟨rfl, by decide, km_Mo_card, (mt8 145 rfl rfl), (mt8 146 rfl rfl), (mt8 147 rfl rfl), by decide⟩
theorem lk_13_159 : lOK 13 159 6 m_LL_heard := ⟨by decide, km_LL_heard, (mt5 93 rfl rfl), (mt5 94 rfl rfl)⟩
theorem lk_13_161 : lOK 13 161 1 m_Mo_heard := ⟨rfl, by decide, km_Mo_heard, (mt8 153 rfl rfl), (mt8 154 rfl rfl), (mt8 155 rfl rfl), by decide⟩
theorem lk_13_162 : lOK 13 162 6 m_LL_swells := ⟨by decide, km_LL_swells, (mt5 101 rfl rfl), (mt5 102 rfl rfl)⟩
theorem lk_13_164 : lOK 13 164 1 m_Mo_swells := ⟨rfl, by decide, km_Mo_swells, (mt8 157 rfl rfl), (mt8 158 rfl rfl), (mt8 159 rfl rfl), by decide⟩
theorem lk_13_165 : lOK 13 165 6 m_LL_would := ⟨by decide, km_LL_would, (mt5 109 rfl rfl), (mt5 110 rfl rfl)⟩
theorem lk_13_168 : lOK 13 168 1 m_Mo_would := ⟨rfl, by decide, km_Mo_would, (mt8 161 rfl rfl), (mt8 162 rfl rfl), (mt8 163 rfl rfl), by decide⟩
theorem lk_13_169 : lOK 13 169 6 m_LL_ahead := ⟨by decide, km_LL_ahead, (mt5 120 rfl rfl), (mt5 121 rfl rfl)⟩
theorem lk_13_171 : lOK 13 171 1 m_Mo_ahead := ⟨rfl, by decide, km_Mo_ahead, (mt8 165 rfl rfl), (mt8 166 rfl rfl), (mt8 167 rfl rfl), by decide⟩
theorem lk_13_172 : lOK 13 172 6 m_LL_to := ⟨by decide, km_LL_to, (mt5 145 rfl rfl), (mt5 146 rfl rfl)⟩
theorem lk_13_174 : lOK 13 174 1 m_Mo_to := ⟨rfl, by decide, km_Mo_to, (mt8 173 rfl rfl), (mt8 174 rfl rfl), (mt8 175 rfl rfl), by decide⟩
theorem lk_13_175 : lOK 13 175 1 m_PL_rides := ⟨rfl, by decide, km_PL_rides, (mt2 188 rfl rfl), (mt2 189 rfl rfl), (mt2 190 rfl rfl), by decide⟩
theorem lk_13_178 : lOK 13 178 1 m_Mo_rides := ⟨rfl, by decide, km_Mo_rides, (mt8 181 rfl rfl), (mt8 182 rfl rfl), (mt8 183 rfl rfl), by decide⟩
theorem lk_13_179 : lOK 13 179 6 m_LL_couple := ⟨by decide, km_LL_couple, (mt5 170 rfl rfl), (mt5 171 rfl rfl)⟩
theorem lk_13_181 : lOK 13 181 1 m_Mo_couple := ⟨rfl, by decide, km_Mo_couple, (mt8 185 rfl rfl), (mt8 186 rfl rfl), (mt8 187 rfl rfl), by decide⟩
theorem lk_13_182 : lOK 13 182 6 m_LL_meet := ⟨by decide, km_LL_meet, (mt5 188 rfl rfl), (mt5 189 rfl rfl)⟩
theorem lk_13_184 : lOK 13 184 1 m_Mo_meet := ⟨rfl, by decide, km_Mo_meet, (mt8 192 rfl rfl), (mt8 193 rfl rfl), (mt8 194 rfl rfl), by decide⟩
theorem lk_13_185 : lOK 13 185 6 m_LL_cheapest := ⟨by decide, km_LL_cheapest, (mt5 199 rfl rfl), (mt5 200 rfl rfl)⟩
theorem lk_13_187 : lOK 13 187 1 m_Mo_cheapest := ⟨rfl, by decide, km_Mo_cheapest, (mt8 196 rfl rfl), (mt8 197 rfl rfl), (mt8 198 rfl rfl), by decide⟩
theorem lk_13_188 : lOK 13 188 6 m_LL_fits := ⟨by decide, km_LL_fits, (mt5 210 rfl rfl), (mt5 211 rfl rfl)⟩
theorem lk_13_190 : lOK 13 190 1 m_Mo_fits := ⟨rfl, by decide, km_Mo_fits, (mt8 200 rfl rfl), (mt8 201 rfl rfl), (mt8 202 rfl rfl), by decide⟩
theorem lk_13_191 : lOK 13 191 6 m_LL_look := ⟨by decide, km_LL_look, (mt5 239 rfl rfl), (mt6 0 rfl rfl)⟩
theorem lk_13_193 : lOK 13 193 1 m_Mo_look := ⟨rfl, by decide, km_Mo_look, (mt8 212 rfl rfl), (mt8 213 rfl rfl), (mt8 214 rfl rfl), by decide⟩
theorem lk_13_194 : lOK 13 194 6 m_LL_streak := ⟨by decide, km_LL_streak, (mt6 16 rfl rfl), (mt6 17 rfl rfl)⟩
theorem lk_13_197 : lOK 13 197 1 m_Mo_streak := ⟨rfl, by decide, km_Mo_streak, (mt8 220 rfl rfl), (mt8 221 rfl rfl), (mt8 222 rfl rfl), by decide⟩
theorem lk_13_198 : lOK 13 198 6 m_LL_flatter := ⟨by decide, km_LL_flatter, (mt6 39 rfl rfl), (mt6 40 rfl rfl)⟩
theorem lk_13_201 : lOK 13 201 1 m_Mo_flatter := ⟨rfl, by decide, km_Mo_flatter, (mt8 228 rfl rfl), (mt8 229 rfl rfl), (mt8 230 rfl rfl), by decide⟩
theorem lk_13_202 : lOK 13 202 6 m_LL_breath := ⟨by decide, km_LL_breath, (mt6 52 rfl rfl), (mt6 53 rfl rfl)⟩
theorem lk_13_204 : lOK 13 204 1 m_Mo_breath := ⟨rfl, by decide, km_Mo_breath, (mt8 235 rfl rfl), (mt8 236 rfl rfl), (mt8 237 rfl rfl), by decide⟩
theorem lk_13_205 : lOK 13 205 6 m_LL_heaviest := ⟨by decide, km_LL_heaviest, (mt6 72 rfl rfl), (mt6 73 rfl rfl)⟩
theorem lk_13_207 : lOK 13 207 1 m_Mo_heaviest := ⟨rfl, by decide, km_Mo_heaviest, (mt9 3 rfl rfl), (mt9 4 rfl rfl), (mt9 5 rfl rfl), by decide⟩
theorem lk_13_208 : lOK 13 208 1 m_PL_waiting := ⟨rfl, by decide, km_PL_waiting, (mt2 227 rfl rfl), (mt2 228 rfl rfl), (mt2 229 rfl rfl), by decide⟩
theorem lk_13_211 : lOK 13 211 1 m_Mo_waiting := ⟨rfl, by decide, km_Mo_waiting, (mt9 7 rfl rfl), (mt9 8 rfl rfl), (mt9 9 rfl rfl), by decide⟩
theorem lk_13_212 : lOK 13 212 6 m_LL_floor := ⟨by decide, km_LL_floor, (mt6 79 rfl rfl), (mt6 80 rfl rfl)⟩
theorem lk_13_214 : lOK 13 214 1 m_Mo_floor := ⟨rfl, by decide, km_Mo_floor, (mt9 11 rfl rfl), (mt9 12 rfl rfl), (mt9 13 rfl rfl), by decide⟩
theorem lk_13_215 : lOK 13 215 6 m_LL_sweetest := ⟨by decide, km_LL_sweetest, (mt6 86 rfl rfl), (mt6 87 rfl rfl)⟩
theorem lk_13_217 : lOK 13 217 1 m_Mo_sweetest := ⟨rfl, by decide, km_Mo_sweetest, (mt9 15 rfl rfl), (mt9 16 rfl rfl), (mt9 17 rfl rfl), by decide⟩
theorem lk_13_218 : lOK 13 218 1 m_PL_lacks := ⟨rfl, by decide, km_PL_lacks, (mt3 0 rfl rfl), (mt3 1 rfl rfl), (mt3 2 rfl rfl), by decide⟩
theorem lk_13_221 : lOK 13 221 1 m_Mo_lacks := ⟨rfl, by decide, km_Mo_lacks, (mt9 19 rfl rfl), (mt9 20 rfl rfl), (mt9 21 rfl rfl), by decide⟩
theorem lk_13_222 : lOK 13 222 6 m_LL_truest := ⟨by decide, km_LL_truest, (mt6 101 rfl rfl), (mt6 102 rfl rfl)⟩
theorem lk_13_224 : lOK 13 224 1 m_Mo_truest := ⟨rfl, by decide, km_Mo_truest, (mt9 23 rfl rfl), (mt9 24 rfl rfl), (mt9 25 rfl rfl), by decide⟩
theorem lk_13_225 : lOK 13 225 6 m_LL_proud := ⟨by decide, km_LL_proud, (mt6 108 rfl rfl), (mt6 109 rfl rfl)⟩
theorem lk_13_227 : lOK 13 227 1 m_Mo_proud := ⟨rfl, by decide, km_Mo_proud, (mt9 27 rfl rfl), (mt9 28 rfl rfl), (mt9 29 rfl rfl), by decide⟩
theorem lk_13_228 : lOK 13 228 6 m_LL_liked := ⟨by decide, km_LL_liked, (mt6 115 rfl rfl), (mt6 116 rfl rfl)⟩
theorem lk_13_230 : lOK 13 230 1 m_Mo_liked := ⟨rfl, by decide, km_Mo_liked, (mt9 31 rfl rfl), (mt9 32 rfl rfl), (mt9 33 rfl rfl), by decide⟩
theorem lk_13_231 : lOK 13 231 6 m_LL_above := ⟨by decide, km_LL_above, (mt6 122 rfl rfl), (mt6 123 rfl rfl)⟩
theorem lk_13_233 : lOK 13 233 1 m_Mo_above := ⟨rfl, by decide, km_Mo_above, (mt9 35 rfl rfl), (mt9 36 rfl rfl), (mt9 37 rfl rfl), by decide⟩
theorem lk_13_234 : lOK 13 234 6 m_LL_ride := ⟨by decide, km_LL_ride, (mt6 129 rfl rfl), (mt6 130 rfl rfl)⟩
theorem lk_13_236 : lOK 13 236 1 m_Mo_ride := ⟨rfl, by decide, km_Mo_ride, (mt9 39 rfl rfl), (mt9 40 rfl rfl), (mt9 41 rfl rfl), by decide⟩
theorem lk_13_237 : lOK 13 237 1 m_PL_vacant := ⟨rfl, by decide, km_PL_vacant, (mt3 9 rfl rfl), (mt3 10 rfl rfl), (mt3 11 rfl rfl), by decide⟩
theorem lk_13_240 : lOK 13 240 1 m_Mo_vacant := ⟨rfl, by decide, km_Mo_vacant, (mt9 43 rfl rfl), (mt9 44 rfl rfl), (mt9 45 rfl rfl), by decide⟩
theorem lk_13_241 : lOK 13 241 6 m_LL_times := ⟨by decide, km_LL_times, (mt6 136 rfl rfl), (mt6 137 rfl rfl)⟩
theorem lk_13_243 : lOK 13 243 1 m_Mo_times := ⟨rfl, by decide, km_Mo_times, (mt9 47 rfl rfl), (mt9 48 rfl rfl), (mt9 49 rfl rfl), by decide⟩
theorem lk_13_244 : lOK 13 244 6 m_LL_week := ⟨by decide, km_LL_week, (mt6 144 rfl rfl), (mt6 145 rfl rfl)⟩
theorem lk_13_246 : lOK 13 246 1 m_Mo_week := ⟨rfl, by decide, km_Mo_week, (mt9 51 rfl rfl), (mt9 52 rfl rfl), (mt9 53 rfl rfl), by decide⟩
theorem lk_13_247 : lOK 13 247 6 m_LL_span := ⟨by decide, km_LL_span, (mt6 174 rfl rfl), (mt6 175 rfl rfl)⟩
theorem lk_13_250 : lOK 13 250 1 m_Mo_span := ⟨rfl, by decide, km_Mo_span, (mt9 71 rfl rfl), (mt9 72 rfl rfl), (mt9 73 rfl rfl), by decide⟩
theorem lk_13_251 : lOK 13 251 1 m_PL_image := ⟨rfl, by decide, km_PL_image, (mt3 17 rfl rfl), (mt3 18 rfl rfl), (mt3 19 rfl rfl), by decide⟩
theorem lk_13_254 : lOK 13 254 1 m_Mo_image := ⟨rfl, by decide, km_Mo_image, (mt9 75 rfl rfl), (mt9 76 rfl rfl), (mt9 77 rfl rfl), by decide⟩
theorem lk_13_255 : lOK 13 255 1 m_PL_restore := ⟨rfl, by decide, km_PL_restore, (mt3 48 rfl rfl), (mt3 49 rfl rfl), (mt3 50 rfl rfl), by decide⟩
theorem lk_13_258 : lOK 13 258 1 m_Mo_restore := ⟨rfl, by decide, km_Mo_restore, (mt9 87 rfl rfl), (mt9 88 rfl rfl), (mt9 89 rfl rfl), by decide⟩
theorem lk_13_259 : lOK 13 259 1 m_PL_status := ⟨rfl, by decide, km_PL_status, (mt3 56 rfl rfl), (mt3 57 rfl rfl), (mt3 58 rfl rfl), by decide⟩
theorem lk_13_262 : lOK 13 262 1 m_Mo_status := ⟨rfl, by decide, km_Mo_status, (mt9 91 rfl rfl), (mt9 92 rfl rfl), (mt9 93 rfl rfl), by decide⟩
theorem lk_13_263 : lOK 13 263 1 m_PL_count := ⟨rfl, by decide, km_PL_count, (mt3 60 rfl rfl), (mt3 61 rfl rfl), (mt3 62 rfl rfl), by decide⟩
theorem lk_13_266 : lOK 13 266 1 m_Mo_count := ⟨rfl, by decide, km_Mo_count, (mt9 95 rfl rfl), (mt9 96 rfl rfl), (mt9 97 rfl rfl), by decide⟩
theorem lk_12_11 : lOK 12 11 7 m_PL_at := (mt6 191 rfl rfl)
theorem lk_12_90 : lOK 12 90 1 m_Mo_clears := ⟨rfl, by decide, km_Mo_clears, (mt6 192 rfl rfl), (mt6 194 rfl rfl), (mt0 35 rfl rfl), by decide⟩
theorem lk_12_93 : lOK 12 93 1 m_Mo_sets := ⟨rfl, by decide, km_Mo_sets, (mt6 196 rfl rfl), (mt6 198 rfl rfl), (mt0 36 rfl rfl), by decide⟩
theorem lk_12_111 : lOK 12 111 1 m_Mo_here := ⟨rfl, by decide, km_Mo_here, (mt7 146 rfl rfl), (mt7 148 rfl rfl), (mt0 42 rfl rfl), by decide⟩
theorem lk_12_115 : lOK 12 115 0 m_Mo_isSmall := ⟨rfl, km_Mo_isSmall, (mt7 154 rfl rfl), (mt7 155 rfl rfl)⟩
theorem lk_12_119 : lOK 12 119 9 m_PL_at := (mt7 164 rfl rfl)
theorem lk_12_124 : lOK 12 124 10 m_PL_at := (mt7 165 rfl rfl)
theorem lk_12_128 : lOK 12 128 1 m_Mo_fine := ⟨rfl, by decide, km_Mo_fine, (mt7 138 rfl rfl), (mt7 140 rfl rfl), (mt0 40 rfl rfl), by decide⟩
theorem lk_12_132 : lOK 12 132 0 m_Mo_isDigit := ⟨rfl, km_Mo_isDigit, (mt7 189 rfl rfl), (mt7 190 rfl rfl)⟩
theorem lk_12_135 : lOK 12 135 1 m_Mo_wrong := ⟨rfl, by decide, km_Mo_wrong, (mt7 169 rfl rfl), (mt7 171 rfl rfl), (mt0 44 rfl rfl), by decide⟩
theorem lk_12_166 : lOK 12 166 1 m_Mo_copies := ⟨rfl, by decide, km_Mo_copies, (mt6 200 rfl rfl), (mt6 202 rfl rfl), (mt0 37 rfl rfl), by decide⟩
theorem lk_12_186 : lOK 12 186 0 m_Mo_of := ⟨rfl, km_Mo_of, (mt7 161 rfl rfl), (mt7 162 rfl rfl)⟩
theorem lk_12_193 : lOK 12 193 1 m_Mo_readNumber := ⟨rfl, by decide, km_Mo_readNumber, (mt7 185 rfl rfl), (mt7 187 rfl rfl), (mt0 48 rfl rfl), by decide⟩
theorem lk_12_197 : lOK 12 197 1 m_Mo_may := ⟨rfl, by decide, km_Mo_may, (mt7 130 rfl rfl), (mt7 132 rfl rfl), (mt0 38 rfl rfl), by decide⟩
theorem lk_12_201 : lOK 12 201 1 m_Mo_begins := ⟨rfl, by decide, km_Mo_begins, (mt7 134 rfl rfl), (mt7 136 rfl rfl), (mt0 39 rfl rfl), by decide⟩
theorem lk_12_205 : lOK 12 205 1 m_Mo_isMore := ⟨rfl, by decide, km_Mo_isMore, (mt7 142 rfl rfl), (mt7 144 rfl rfl), (mt0 41 rfl rfl), by decide⟩
theorem lk_12_208 : lOK 12 208 1 m_Mo_word := ⟨rfl, by decide, km_Mo_word, (mt7 150 rfl rfl), (mt7 152 rfl rfl), (mt0 43 rfl rfl), by decide⟩
theorem lk_12_211 : lOK 12 211 0 m_Mo_isRow := ⟨rfl, km_Mo_isRow, (mt7 157 rfl rfl), (mt7 158 rfl rfl)⟩
theorem lk_12_214 : lOK 12 214 1 m_Mo_isFull := ⟨rfl, by decide, km_Mo_isFull, (mt7 173 rfl rfl), (mt7 175 rfl rfl), (mt0 45 rfl rfl), by decide⟩
theorem lk_12_217 : lOK 12 217 1 m_Mo_pass := ⟨rfl, by decide, km_Mo_pass, (mt7 177 rfl rfl), (mt7 179 rfl rfl), (mt0 46 rfl rfl), by decide⟩
theorem lk_12_220 : lOK 12 220 1 m_Mo_readRow := ⟨rfl, by decide, km_Mo_readRow, (mt7 181 rfl rfl), (mt7 183 rfl rfl), (mt0 47 rfl rfl), by decide⟩
theorem lk_12_223 : lOK 12 223 1 m_Mo_sign := ⟨rfl, by decide, km_Mo_sign, (mt7 192 rfl rfl), (mt7 194 rfl rfl), (mt0 49 rfl rfl), by decide⟩
theorem lk_12_226 : lOK 12 226 1 m_Mo_result := ⟨rfl, by decide, km_Mo_result, (mt7 196 rfl rfl), (mt7 198 rfl rfl), (mt0 50 rfl rfl), by decide⟩
theorem lk_12_233 : lOK 12 233 1 m_Mo_readProduct := ⟨rfl, by decide, km_Mo_readProduct, (mt7 208 rfl rfl), (mt7 210 rfl rfl), (mt0 52 rfl rfl), by decide⟩
theorem lk_12_236 : lOK 12 236 1 m_Mo_emit := ⟨rfl, by decide, km_Mo_emit, (mt7 220 rfl rfl), (mt7 222 rfl rfl), (mt0 55 rfl rfl), by decide⟩
theorem lk_12_239 : lOK 12 239 1 m_Mo_readUnit := ⟨rfl, by decide, km_Mo_readUnit, (mt7 212 rfl rfl), (mt7 214 rfl rfl), (mt0 53 rfl rfl), by decide⟩
theorem lk_12_242 : lOK 12 242 1 m_Mo_opensOne := ⟨rfl, by decide, km_Mo_opensOne, (mt7 216 rfl rfl), (mt7 218 rfl rfl), (mt0 54 rfl rfl), by decide⟩
theorem lk_12_245 : lOK 12 245 1 m_Mo_readSum := ⟨rfl, by decide, km_Mo_readSum, (mt7 204 rfl rfl), (mt7 206 rfl rfl), (mt0 51 rfl rfl), by decide⟩
theorem lk_12_266 : lOK 12 266 1 m_Mo_readTwo := ⟨rfl, by decide, km_Mo_readTwo, (mt7 225 rfl rfl), (mt7 227 rfl rfl), (mt0 56 rfl rfl), by decide⟩
theorem lk_12_271 : lOK 12 271 1 m_Mo_factHere := ⟨rfl, by decide, km_Mo_factHere, (mt7 230 rfl rfl), (mt7 232 rfl rfl), (mt0 57 rfl rfl), by decide⟩
theorem lk_12_274 : lOK 12 274 0 m_Mo_both := ⟨rfl, km_Mo_both, (mt8 80 rfl rfl), (mt8 81 rfl rfl)⟩
theorem lk_12_278 : lOK 12 278 1 m_Mo_valueNow := ⟨rfl, by decide, km_Mo_valueNow, (mt8 76 rfl rfl), (mt8 78 rfl rfl), (mt0 72 rfl rfl), by decide⟩
theorem lk_12_300 : lOK 12 300 0 m_Mo_stepOf := ⟨rfl, km_Mo_stepOf, (mt8 10 rfl rfl), (mt8 11 rfl rfl)⟩
theorem lk_12_303 : lOK 12 303 1 m_Mo_tellsStep := ⟨rfl, by decide, km_Mo_tellsStep, (mt8 21 rfl rfl), (mt8 23 rfl rfl), (mt0 59 rfl rfl), by decide⟩
theorem lk_12_307 : lOK 12 307 1 m_Mo_readStep := ⟨rfl, by decide, km_Mo_readStep, (mt8 6 rfl rfl), (mt8 8 rfl rfl), (mt0 58 rfl rfl), by decide⟩
theorem lk_12_310 : lOK 12 310 1 m_Mo_take := ⟨rfl, by decide, km_Mo_take, (mt8 25 rfl rfl), (mt8 27 rfl rfl), (mt0 60 rfl rfl), by decide⟩
theorem lk_12_322 : lOK 12 322 1 m_Mo_goesSteps := ⟨rfl, by decide, km_Mo_goesSteps, (mt8 29 rfl rfl), (mt8 31 rfl rfl), (mt0 61 rfl rfl), by decide⟩
theorem lk_12_325 : lOK 12 325 1 m_Mo_isDone := ⟨rfl, by decide, km_Mo_isDone, (mt8 33 rfl rfl), (mt8 35 rfl rfl), (mt0 62 rfl rfl), by decide⟩
theorem lk_12_329 : lOK 12 329 1 m_Mo_heavyOf := ⟨rfl, by decide, km_Mo_heavyOf, (mt8 102 rfl rfl), (mt8 104 rfl rfl), (mt0 77 rfl rfl), by decide⟩
theorem lk_12_332 : lOK 12 332 1 m_Mo_swellsNow := ⟨rfl, by decide, km_Mo_swellsNow, (mt8 72 rfl rfl), (mt8 74 rfl rfl), (mt0 71 rfl rfl), by decide⟩
theorem lk_12_335 : lOK 12 335 1 m_Mo_floorOf := ⟨rfl, by decide, km_Mo_floorOf, (mt8 64 rfl rfl), (mt8 66 rfl rfl), (mt0 69 rfl rfl), by decide⟩
theorem lk_12_338 : lOK 12 338 1 m_Mo_swellsOf := ⟨rfl, by decide, km_Mo_swellsOf, (mt8 68 rfl rfl), (mt8 70 rfl rfl), (mt0 70 rfl rfl), by decide⟩
theorem lk_12_342 : lOK 12 342 1 m_Mo_inside := ⟨rfl, by decide, km_Mo_inside, (mt8 45 rfl rfl), (mt8 47 rfl rfl), (mt0 65 rfl rfl), by decide⟩
theorem lk_12_345 : lOK 12 345 0 m_Mo_ones := ⟨rfl, km_Mo_ones, (mt8 49 rfl rfl), (mt8 50 rfl rfl)⟩
theorem lk_12_348 : lOK 12 348 1 m_Mo_canEnter := ⟨rfl, by decide, km_Mo_canEnter, (mt8 41 rfl rfl), (mt8 43 rfl rfl), (mt0 64 rfl rfl), by decide⟩
theorem lk_12_351 : lOK 12 351 1 m_Mo_swellsBy := ⟨rfl, by decide, km_Mo_swellsBy, (mt8 60 rfl rfl), (mt8 62 rfl rfl), (mt0 68 rfl rfl), by decide⟩
theorem lk_12_354 : lOK 12 354 0 m_Mo_held := ⟨rfl, km_Mo_held, (mt8 83 rfl rfl), (mt8 84 rfl rfl)⟩
theorem lk_12_357 : lOK 12 357 1 m_Mo_isLie := ⟨rfl, by decide, km_Mo_isLie, (mt8 86 rfl rfl), (mt8 88 rfl rfl), (mt0 73 rfl rfl), by decide⟩
theorem lk_12_361 : lOK 12 361 1 m_Mo_heavyAll := ⟨rfl, by decide, km_Mo_heavyAll, (mt8 98 rfl rfl), (mt8 100 rfl rfl), (mt0 76 rfl rfl), by decide⟩
theorem lk_12_364 : lOK 12 364 1 m_Mo_goesTo := ⟨rfl, by decide, km_Mo_goesTo, (mt8 106 rfl rfl), (mt8 108 rfl rfl), (mt0 78 rfl rfl), by decide⟩
theorem lk_12_367 : lOK 12 367 1 m_Mo_leaves := ⟨rfl, by decide, km_Mo_leaves, (mt8 52 rfl rfl), (mt8 54 rfl rfl), (mt0 66 rfl rfl), by decide⟩
theorem lk_12_370 : lOK 12 370 1 m_Mo_enters := ⟨rfl, by decide, km_Mo_enters, (mt8 37 rfl rfl), (mt8 39 rfl rfl), (mt0 63 rfl rfl), by decide⟩
theorem lk_12_373 : lOK 12 373 1 m_Mo_says := ⟨rfl, by decide, km_Mo_says, (mt8 56 rfl rfl), (mt8 58 rfl rfl), (mt0 67 rfl rfl), by decide⟩
theorem lk_12_376 : lOK 12 376 1 m_Mo_insults := ⟨rfl, by decide, km_Mo_insults, (mt8 90 rfl rfl), (mt8 92 rfl rfl), (mt0 74 rfl rfl), by decide⟩
theorem lk_12_379 : lOK 12 379 1 m_Mo_rides0 := ⟨rfl, by decide, km_Mo_rides0, (mt8 94 rfl rfl), (mt8 96 rfl rfl), (mt0 75 rfl rfl), by decide⟩
theorem lk_12_382 : lOK 12 382 1 m_Mo_passes := ⟨rfl, by decide, km_Mo_passes, (mt8 110 rfl rfl), (mt8 112 rfl rfl), (mt0 79 rfl rfl), by decide⟩
theorem lk_12_385 : lOK 12 385 1 m_Mo_loadNow := ⟨rfl, by decide, km_Mo_loadNow, (mt8 129 rfl rfl), (mt8 131 rfl rfl), (mt0 80 rfl rfl), by decide⟩
theorem lk_12_388 : lOK 12 388 0 m_Mo_within := ⟨rfl, km_Mo_within, (mt8 126 rfl rfl), (mt8 127 rfl rfl)⟩
theorem lk_12_391 : lOK 12 391 1 m_Mo_goesNow := ⟨rfl, by decide, km_Mo_goesNow, (mt8 133 rfl rfl), (mt8 135 rfl rfl), (mt0 81 rfl rfl), by decide⟩
theorem lk_12_394 : lOK 12 394 1 m_Mo_isMan := ⟨rfl, by decide, km_Mo_isMan, (mt8 141 rfl rfl), (mt8 143 rfl rfl), (mt0 82 rfl rfl), by decide⟩
theorem lk_12_397 : lOK 12 397 1 m_Mo_isCard := ⟨rfl, by decide, km_Mo_isCard, (mt8 149 rfl rfl), (mt8 151 rfl rfl), (mt0 83 rfl rfl), by decide⟩
theorem lk_12_400 : lOK 12 400 1 m_Mo_prideAll := ⟨rfl, by decide, km_Mo_prideAll, (mt8 169 rfl rfl), (mt8 171 rfl rfl), (mt0 84 rfl rfl), by decide⟩
theorem lk_12_403 : lOK 12 403 1 m_Mo_mostBy := ⟨rfl, by decide, km_Mo_mostBy, (mt8 177 rfl rfl), (mt8 179 rfl rfl), (mt0 85 rfl rfl), by decide⟩
theorem lk_12_406 : lOK 12 406 0 m_Mo_size := ⟨rfl, km_Mo_size, (mt8 189 rfl rfl), (mt8 190 rfl rfl)⟩
theorem lk_12_408 : lOK 12 408 1 m_Mo_heavyThen := ⟨rfl, by decide, km_Mo_heavyThen, (mt8 208 rfl rfl), (mt8 210 rfl rfl), (mt0 87 rfl rfl), by decide⟩
theorem lk_12_411 : lOK 12 411 1 m_Mo_isFit := ⟨rfl, by decide, km_Mo_isFit, (mt8 204 rfl rfl), (mt8 206 rfl rfl), (mt0 86 rfl rfl), by decide⟩
theorem lk_12_414 : lOK 12 414 1 m_Mo_worstOf := ⟨rfl, by decide, km_Mo_worstOf, (mt8 216 rfl rfl), (mt8 218 rfl rfl), (mt0 88 rfl rfl), by decide⟩
theorem lk_12_419 : lOK 12 419 0 m_Mo_least := ⟨rfl, km_Mo_least, (mt8 225 rfl rfl), (mt8 226 rfl rfl)⟩
theorem lk_12_422 : lOK 12 422 0 m_Mo_hasBy := ⟨rfl, km_Mo_hasBy, (mt8 232 rfl rfl), (mt8 233 rfl rfl)⟩
theorem lk_12_426 : lOK 12 426 1 m_Mo_breathBy := ⟨rfl, by decide, km_Mo_breathBy, (mt8 239 rfl rfl), (mt9 1 rfl rfl), (mt0 89 rfl rfl), by decide⟩
theorem lk_12_433 : lOK 12 433 1 m_Mo_draws := ⟨rfl, by decide, km_Mo_draws, (mt9 62 rfl rfl), (mt9 64 rfl rfl), (mt0 91 rfl rfl), by decide⟩
theorem lk_12_436 : lOK 12 436 0 m_Mo_isWeek := ⟨rfl, km_Mo_isWeek, (mt9 55 rfl rfl), (mt9 56 rfl rfl)⟩
theorem lk_12_439 : lOK 12 439 1 m_Mo_weekGoes := ⟨rfl, by decide, km_Mo_weekGoes, (mt9 58 rfl rfl), (mt9 60 rfl rfl), (mt0 90 rfl rfl), by decide⟩
theorem lk_12_442 : lOK 12 442 1 m_Mo_rodeMore := ⟨rfl, by decide, km_Mo_rodeMore, (mt9 67 rfl rfl), (mt9 69 rfl rfl), (mt0 92 rfl rfl), by decide⟩
theorem lk_12_445 : lOK 12 445 1 m_Mo_keepsRow := ⟨rfl, by decide, km_Mo_keepsRow, (mt9 83 rfl rfl), (mt9 85 rfl rfl), (mt0 94 rfl rfl), by decide⟩
theorem lk_12_449 : lOK 12 449 1 m_Mo_keepsAll := ⟨rfl, by decide, km_Mo_keepsAll, (mt9 79 rfl rfl), (mt9 81 rfl rfl), (mt0 93 rfl rfl), by decide⟩
set_option maxRecDepth 100000 in
theorem mlk_0 : ∀ e ∈ mlL 0, lOK 0 e.1 e.2.1 e.2.2 := List.forall_mem_cons.mpr ⟨lk_0_3, List.forall_mem_cons.mpr ⟨lk_0_34, List.forall_mem_cons.mpr ⟨lk_0_37, List.forall_mem_cons.mpr ⟨lk_0_43, List.forall_mem_cons.mpr ⟨lk_0_50, List.forall_mem_cons.mpr ⟨lk_0_54, List.forall_mem_cons.mpr ⟨lk_0_58, List.forall_mem_cons.mpr ⟨lk_0_62, List.forall_mem_cons.mpr ⟨lk_0_66, List.forall_mem_cons.mpr ⟨lk_0_70, List.forall_mem_cons.mpr ⟨lk_0_83, List.forall_mem_cons.mpr ⟨lk_0_90, List.forall_mem_cons.mpr ⟨lk_0_93, List.forall_mem_cons.mpr ⟨lk_0_97, List.forall_mem_cons.mpr ⟨lk_0_101, List.forall_mem_cons.mpr ⟨lk_0_105, List.forall_mem_cons.mpr ⟨lk_0_109, fun _ h => absurd h List.not_mem_nil⟩⟩⟩⟩⟩⟩⟩⟩⟩⟩⟩⟩⟩⟩⟩⟩⟩
set_option maxRecDepth 100000 in
theorem mlk_1 : ∀ e ∈ mlL 1, lOK 1 e.1 e.2.1 e.2.2 := List.forall_mem_cons.mpr ⟨lk_1_3, List.forall_mem_cons.mpr ⟨lk_1_40, List.forall_mem_cons.mpr ⟨lk_1_44, List.forall_mem_cons.mpr ⟨lk_1_50, List.forall_mem_cons.mpr ⟨lk_1_54, List.forall_mem_cons.mpr ⟨lk_1_58, fun _ h => absurd h List.not_mem_nil⟩⟩⟩⟩⟩⟩
set_option maxRecDepth 100000 in
theorem mlk_2 : ∀ e ∈ mlL 2, lOK 2 e.1 e.2.1 e.2.2 := List.forall_mem_cons.mpr ⟨lk_2_3, List.forall_mem_cons.mpr ⟨lk_2_40, List.forall_mem_cons.mpr ⟨lk_2_46, List.forall_mem_cons.mpr ⟨lk_2_52, List.forall_mem_cons.mpr ⟨lk_2_59, List.forall_mem_cons.mpr ⟨lk_2_63, List.forall_mem_cons.mpr ⟨lk_2_67, List.forall_mem_cons.mpr ⟨lk_2_71, List.forall_mem_cons.mpr ⟨lk_2_75, List.forall_mem_cons.mpr ⟨lk_2_78, List.forall_mem_cons.mpr ⟨lk_2_81, List.forall_mem_cons.mpr ⟨lk_2_85, fun _ h => absurd h List.not_mem_nil⟩⟩⟩⟩⟩⟩⟩⟩⟩⟩⟩⟩
set_option maxRecDepth 100000 in
theorem mlk_3 : ∀ e ∈ mlL 3, lOK 3 e.1 e.2.1 e.2.2 := List.forall_mem_cons.mpr ⟨lk_3_3, List.forall_mem_cons.mpr ⟨lk_3_11, fun _ h => absurd h List.not_mem_nil⟩⟩
set_option maxRecDepth 100000 in
theorem mlk_4 : ∀ e ∈ mlL 4, lOK 4 e.1 e.2.1 e.2.2 := List.forall_mem_cons.mpr ⟨lk_4_3, List.forall_mem_cons.mpr ⟨lk_4_25, List.forall_mem_cons.mpr ⟨lk_4_28, List.forall_mem_cons.mpr ⟨lk_4_31, List.forall_mem_cons.mpr ⟨lk_4_35, List.forall_mem_cons.mpr ⟨lk_4_39, List.forall_mem_cons.mpr ⟨lk_4_45, List.forall_mem_cons.mpr ⟨lk_4_49, List.forall_mem_cons.mpr ⟨lk_4_52, List.forall_mem_cons.mpr ⟨lk_4_55, List.forall_mem_cons.mpr ⟨lk_4_58, List.forall_mem_cons.mpr ⟨lk_4_62, List.forall_mem_cons.mpr ⟨lk_4_68, List.forall_mem_cons.mpr ⟨lk_4_72, List.forall_mem_cons.mpr ⟨lk_4_79, List.forall_mem_cons.mpr ⟨lk_4_83, List.forall_mem_cons.mpr ⟨lk_4_89, List.forall_mem_cons.mpr ⟨lk_4_93, List.forall_mem_cons.mpr ⟨lk_4_97, List.forall_mem_cons.mpr ⟨lk_4_101, List.forall_mem_cons.mpr ⟨lk_4_106, fun _ h => absurd h List.not_mem_nil⟩⟩⟩⟩⟩⟩⟩⟩⟩⟩⟩⟩⟩⟩⟩⟩⟩⟩⟩⟩⟩
set_option maxRecDepth 100000 in
theorem mlk_5 : ∀ e ∈ mlL 5, lOK 5 e.1 e.2.1 e.2.2 := List.forall_mem_cons.mpr ⟨lk_5_3, List.forall_mem_cons.mpr ⟨lk_5_11, List.forall_mem_cons.mpr ⟨lk_5_20, List.forall_mem_cons.mpr ⟨lk_5_27, List.forall_mem_cons.mpr ⟨lk_5_32, List.forall_mem_cons.mpr ⟨lk_5_35, List.forall_mem_cons.mpr ⟨lk_5_39, List.forall_mem_cons.mpr ⟨lk_5_47, List.forall_mem_cons.mpr ⟨lk_5_51, List.forall_mem_cons.mpr ⟨lk_5_62, List.forall_mem_cons.mpr ⟨lk_5_75, List.forall_mem_cons.mpr ⟨lk_5_79, List.forall_mem_cons.mpr ⟨lk_5_82, List.forall_mem_cons.mpr ⟨lk_5_89, List.forall_mem_cons.mpr ⟨lk_5_102, List.forall_mem_cons.mpr ⟨lk_5_108, List.forall_mem_cons.mpr ⟨lk_5_112, List.forall_mem_cons.mpr ⟨lk_5_115, List.forall_mem_cons.mpr ⟨lk_5_118, List.forall_mem_cons.mpr ⟨lk_5_121, List.forall_mem_cons.mpr ⟨lk_5_125, List.forall_mem_cons.mpr ⟨lk_5_128, List.forall_mem_cons.mpr ⟨lk_5_136, List.forall_mem_cons.mpr ⟨lk_5_142, List.forall_mem_cons.mpr ⟨lk_5_145, List.forall_mem_cons.mpr ⟨lk_5_148, List.forall_mem_cons.mpr ⟨lk_5_151, List.forall_mem_cons.mpr ⟨lk_5_154, List.forall_mem_cons.mpr ⟨lk_5_159, List.forall_mem_cons.mpr ⟨lk_5_162, List.forall_mem_cons.mpr ⟨lk_5_166, List.forall_mem_cons.mpr ⟨lk_5_176, List.forall_mem_cons.mpr ⟨lk_5_179, List.forall_mem_cons.mpr ⟨lk_5_182, List.forall_mem_cons.mpr ⟨lk_5_188, fun _ h => absurd h List.not_mem_nil⟩⟩⟩⟩⟩⟩⟩⟩⟩⟩⟩⟩⟩⟩⟩⟩⟩⟩⟩⟩⟩⟩⟩⟩⟩⟩⟩⟩⟩⟩⟩⟩⟩⟩⟩
set_option maxRecDepth 100000 in
theorem mlk_6 : ∀ e ∈ mlL 6, lOK 6 e.1 e.2.1 e.2.2 := List.forall_mem_cons.mpr ⟨lk_6_3, List.forall_mem_cons.mpr ⟨lk_6_30, List.forall_mem_cons.mpr ⟨lk_6_31, List.forall_mem_cons.mpr ⟨lk_6_35, List.forall_mem_cons.mpr ⟨lk_6_43, fun _ h => absurd h List.not_mem_nil⟩⟩⟩⟩⟩
set_option maxRecDepth 100000 in
theorem mlk_7 : ∀ e ∈ mlL 7, lOK 7 e.1 e.2.1 e.2.2 := List.forall_mem_cons.mpr ⟨lk_7_3, List.forall_mem_cons.mpr ⟨lk_7_31, List.forall_mem_cons.mpr ⟨lk_7_37, List.forall_mem_cons.mpr ⟨lk_7_41, List.forall_mem_cons.mpr ⟨lk_7_45, List.forall_mem_cons.mpr ⟨lk_7_49, List.forall_mem_cons.mpr ⟨lk_7_54, List.forall_mem_cons.mpr ⟨lk_7_57, List.forall_mem_cons.mpr ⟨lk_7_61, List.forall_mem_cons.mpr ⟨lk_7_65, fun _ h => absurd h List.not_mem_nil⟩⟩⟩⟩⟩⟩⟩⟩⟩⟩
set_option maxRecDepth 100000 in
theorem mlk_8 : ∀ e ∈ mlL 8, lOK 8 e.1 e.2.1 e.2.2 := List.forall_mem_cons.mpr ⟨lk_8_3, List.forall_mem_cons.mpr ⟨lk_8_37, List.forall_mem_cons.mpr ⟨lk_8_41, List.forall_mem_cons.mpr ⟨lk_8_48, List.forall_mem_cons.mpr ⟨lk_8_52, List.forall_mem_cons.mpr ⟨lk_8_56, List.forall_mem_cons.mpr ⟨lk_8_61, List.forall_mem_cons.mpr ⟨lk_8_66, List.forall_mem_cons.mpr ⟨lk_8_70, List.forall_mem_cons.mpr ⟨lk_8_72, List.forall_mem_cons.mpr ⟨lk_8_87, List.forall_mem_cons.mpr ⟨lk_8_91, List.forall_mem_cons.mpr ⟨lk_8_98, List.forall_mem_cons.mpr ⟨lk_8_101, List.forall_mem_cons.mpr ⟨lk_8_104, List.forall_mem_cons.mpr ⟨lk_8_108, List.forall_mem_cons.mpr ⟨lk_8_111, List.forall_mem_cons.mpr ⟨lk_8_114, List.forall_mem_cons.mpr ⟨lk_8_118, List.forall_mem_cons.mpr ⟨lk_8_124, List.forall_mem_cons.mpr ⟨lk_8_128, fun _ h => absurd h List.not_mem_nil⟩⟩⟩⟩⟩⟩⟩⟩⟩⟩⟩⟩⟩⟩⟩⟩⟩⟩⟩⟩⟩
set_option maxRecDepth 100000 in
theorem mlk_9 : ∀ e ∈ mlL 9, lOK 9 e.1 e.2.1 e.2.2 := List.forall_mem_cons.mpr ⟨lk_9_3, List.forall_mem_cons.mpr ⟨lk_9_15, List.forall_mem_cons.mpr ⟨lk_9_19, List.forall_mem_cons.mpr ⟨lk_9_36, List.forall_mem_cons.mpr ⟨lk_9_40, List.forall_mem_cons.mpr ⟨lk_9_44, List.forall_mem_cons.mpr ⟨lk_9_48, List.forall_mem_cons.mpr ⟨lk_9_51, List.forall_mem_cons.mpr ⟨lk_9_55, fun _ h => absurd h List.not_mem_nil⟩⟩⟩⟩⟩⟩⟩⟩⟩
set_option maxRecDepth 100000 in
theorem mlk_10 : ∀ e ∈ mlL 10, lOK 10 e.1 e.2.1 e.2.2 := List.forall_mem_cons.mpr ⟨lk_10_3, List.forall_mem_cons.mpr ⟨lk_10_36, List.forall_mem_cons.mpr ⟨lk_10_40, List.forall_mem_cons.mpr ⟨lk_10_44, List.forall_mem_cons.mpr ⟨lk_10_48, List.forall_mem_cons.mpr ⟨lk_10_54, List.forall_mem_cons.mpr ⟨lk_10_58, List.forall_mem_cons.mpr ⟨lk_10_67, List.forall_mem_cons.mpr ⟨lk_10_77, List.forall_mem_cons.mpr ⟨lk_10_84, List.forall_mem_cons.mpr ⟨lk_10_88, List.forall_mem_cons.mpr ⟨lk_10_91, List.forall_mem_cons.mpr ⟨lk_10_95, List.forall_mem_cons.mpr ⟨lk_10_99, List.forall_mem_cons.mpr ⟨lk_10_103, List.forall_mem_cons.mpr ⟨lk_10_107, List.forall_mem_cons.mpr ⟨lk_10_111, List.forall_mem_cons.mpr ⟨lk_10_116, List.forall_mem_cons.mpr ⟨lk_10_122, List.forall_mem_cons.mpr ⟨lk_10_125, List.forall_mem_cons.mpr ⟨lk_10_129, List.forall_mem_cons.mpr ⟨lk_10_132, List.forall_mem_cons.mpr ⟨lk_10_135, List.forall_mem_cons.mpr ⟨lk_10_138, fun _ h => absurd h List.not_mem_nil⟩⟩⟩⟩⟩⟩⟩⟩⟩⟩⟩⟩⟩⟩⟩⟩⟩⟩⟩⟩⟩⟩⟩⟩
set_option maxRecDepth 100000 in
theorem mlk_11 : ∀ e ∈ mlL 11, lOK 11 e.1 e.2.1 e.2.2 := List.forall_mem_cons.mpr ⟨lk_11_1, List.forall_mem_cons.mpr ⟨lk_11_9, List.forall_mem_cons.mpr ⟨lk_11_18, List.forall_mem_cons.mpr ⟨lk_11_28, List.forall_mem_cons.mpr ⟨lk_11_35, List.forall_mem_cons.mpr ⟨lk_11_42, List.forall_mem_cons.mpr ⟨lk_11_49, List.forall_mem_cons.mpr ⟨lk_11_56, List.forall_mem_cons.mpr ⟨lk_11_63, List.forall_mem_cons.mpr ⟨lk_11_87, List.forall_mem_cons.mpr ⟨lk_11_91, List.forall_mem_cons.mpr ⟨lk_11_97, List.forall_mem_cons.mpr ⟨lk_11_98, List.forall_mem_cons.mpr ⟨lk_11_102, List.forall_mem_cons.mpr ⟨lk_11_106, List.forall_mem_cons.mpr ⟨lk_11_110, List.forall_mem_cons.mpr ⟨lk_11_113, List.forall_mem_cons.mpr ⟨lk_11_119, List.forall_mem_cons.mpr ⟨lk_11_123, List.forall_mem_cons.mpr ⟨lk_11_124, List.forall_mem_cons.mpr ⟨lk_11_128, List.forall_mem_cons.mpr ⟨lk_11_134, List.forall_mem_cons.mpr ⟨lk_11_137, List.forall_mem_cons.mpr ⟨lk_11_142, List.forall_mem_cons.mpr ⟨lk_11_150, List.forall_mem_cons.mpr ⟨lk_11_157, List.forall_mem_cons.mpr ⟨lk_11_167, List.forall_mem_cons.mpr ⟨lk_11_173, List.forall_mem_cons.mpr ⟨lk_11_177, List.forall_mem_cons.mpr ⟨lk_11_181, List.forall_mem_cons.mpr ⟨lk_11_202, List.forall_mem_cons.mpr ⟨lk_11_212, List.forall_mem_cons.mpr ⟨lk_11_215, List.forall_mem_cons.mpr ⟨lk_11_218, List.forall_mem_cons.mpr ⟨lk_11_225, List.forall_mem_cons.mpr ⟨lk_11_235, List.forall_mem_cons.mpr ⟨lk_11_238, List.forall_mem_cons.mpr ⟨lk_11_245, List.forall_mem_cons.mpr ⟨lk_11_248, List.forall_mem_cons.mpr ⟨lk_11_257, List.forall_mem_cons.mpr ⟨lk_11_260, List.forall_mem_cons.mpr ⟨lk_11_264, List.forall_mem_cons.mpr ⟨lk_11_267, List.forall_mem_cons.mpr ⟨lk_11_271, List.forall_mem_cons.mpr ⟨lk_11_274, List.forall_mem_cons.mpr ⟨lk_11_277, List.forall_mem_cons.mpr ⟨lk_11_280, List.forall_mem_cons.mpr ⟨lk_11_283, List.forall_mem_cons.mpr ⟨lk_11_287, List.forall_mem_cons.mpr ⟨lk_11_290, List.forall_mem_cons.mpr ⟨lk_11_293, List.forall_mem_cons.mpr ⟨lk_11_297, List.forall_mem_cons.mpr ⟨lk_11_301, List.forall_mem_cons.mpr ⟨lk_11_304, List.forall_mem_cons.mpr ⟨lk_11_308, List.forall_mem_cons.mpr ⟨lk_11_311, List.forall_mem_cons.mpr ⟨lk_11_314, List.forall_mem_cons.mpr ⟨lk_11_317, List.forall_mem_cons.mpr ⟨lk_11_320, List.forall_mem_cons.mpr ⟨lk_11_323, List.forall_mem_cons.mpr ⟨lk_11_326, List.forall_mem_cons.mpr ⟨lk_11_332, List.forall_mem_cons.mpr ⟨lk_11_336, List.forall_mem_cons.mpr ⟨lk_11_340, List.forall_mem_cons.mpr ⟨lk_11_343, List.forall_mem_cons.mpr ⟨lk_11_347, List.forall_mem_cons.mpr ⟨lk_11_350, List.forall_mem_cons.mpr ⟨lk_11_355, List.forall_mem_cons.mpr ⟨lk_11_358, List.forall_mem_cons.mpr ⟨lk_11_361, List.forall_mem_cons.mpr ⟨lk_11_365, List.forall_mem_cons.mpr ⟨lk_11_368, List.forall_mem_cons.mpr ⟨lk_11_371, List.forall_mem_cons.mpr ⟨lk_11_374, List.forall_mem_cons.mpr ⟨lk_11_377, List.forall_mem_cons.mpr ⟨lk_11_380, List.forall_mem_cons.mpr ⟨lk_11_393, List.forall_mem_cons.mpr ⟨lk_11_400, List.forall_mem_cons.mpr ⟨lk_11_415, fun _ h => absurd h List.not_mem_nil⟩⟩⟩⟩⟩⟩⟩⟩⟩⟩⟩⟩⟩⟩⟩⟩⟩⟩⟩⟩⟩⟩⟩⟩⟩⟩⟩⟩⟩⟩⟩⟩⟩⟩⟩⟩⟩⟩⟩⟩⟩⟩⟩⟩⟩⟩⟩⟩⟩⟩⟩⟩⟩⟩⟩⟩⟩⟩⟩⟩⟩⟩⟩⟩⟩⟩⟩⟩⟩⟩⟩⟩⟩⟩⟩⟩⟩⟩⟩
set_option maxRecDepth 100000 in
theorem mlk_12 : ∀ e ∈ mlL 12, lOK 12 e.1 e.2.1 e.2.2 := List.forall_mem_cons.mpr ⟨lk_12_11, List.forall_mem_cons.mpr ⟨lk_12_90, List.forall_mem_cons.mpr ⟨lk_12_93, List.forall_mem_cons.mpr ⟨lk_12_111, List.forall_mem_cons.mpr ⟨lk_12_115, List.forall_mem_cons.mpr ⟨lk_12_119, List.forall_mem_cons.mpr ⟨lk_12_124, List.forall_mem_cons.mpr ⟨lk_12_128, List.forall_mem_cons.mpr ⟨lk_12_132, List.forall_mem_cons.mpr ⟨lk_12_135, List.forall_mem_cons.mpr ⟨lk_12_166, List.forall_mem_cons.mpr ⟨lk_12_186, List.forall_mem_cons.mpr ⟨lk_12_193, List.forall_mem_cons.mpr ⟨lk_12_197, List.forall_mem_cons.mpr ⟨lk_12_201, List.forall_mem_cons.mpr ⟨lk_12_205, List.forall_mem_cons.mpr ⟨lk_12_208, List.forall_mem_cons.mpr ⟨lk_12_211, List.forall_mem_cons.mpr ⟨lk_12_214, List.forall_mem_cons.mpr ⟨lk_12_217, List.forall_mem_cons.mpr ⟨lk_12_220, List.forall_mem_cons.mpr ⟨lk_12_223, List.forall_mem_cons.mpr ⟨lk_12_226, List.forall_mem_cons.mpr ⟨lk_12_233, List.forall_mem_cons.mpr ⟨lk_12_236, List.forall_mem_cons.mpr ⟨lk_12_239, List.forall_mem_cons.mpr ⟨lk_12_242, List.forall_mem_cons.mpr ⟨lk_12_245, List.forall_mem_cons.mpr ⟨lk_12_266, List.forall_mem_cons.mpr ⟨lk_12_271, List.forall_mem_cons.mpr ⟨lk_12_274, List.forall_mem_cons.mpr ⟨lk_12_278, List.forall_mem_cons.mpr ⟨lk_12_300, List.forall_mem_cons.mpr ⟨lk_12_303, List.forall_mem_cons.mpr ⟨lk_12_307, List.forall_mem_cons.mpr ⟨lk_12_310, List.forall_mem_cons.mpr ⟨lk_12_322, List.forall_mem_cons.mpr ⟨lk_12_325, List.forall_mem_cons.mpr ⟨lk_12_329, List.forall_mem_cons.mpr ⟨lk_12_332, List.forall_mem_cons.mpr ⟨lk_12_335, List.forall_mem_cons.mpr ⟨lk_12_338, List.forall_mem_cons.mpr ⟨lk_12_342, List.forall_mem_cons.mpr ⟨lk_12_345, List.forall_mem_cons.mpr ⟨lk_12_348, List.forall_mem_cons.mpr ⟨lk_12_351, List.forall_mem_cons.mpr ⟨lk_12_354, List.forall_mem_cons.mpr ⟨lk_12_357, List.forall_mem_cons.mpr ⟨lk_12_361, List.forall_mem_cons.mpr ⟨lk_12_364, List.forall_mem_cons.mpr ⟨lk_12_367, List.forall_mem_cons.mpr ⟨lk_12_370, List.forall_mem_cons.mpr ⟨lk_12_373, List.forall_mem_cons.mpr ⟨lk_12_376, List.forall_mem_cons.mpr ⟨lk_12_379, List.forall_mem_cons.mpr ⟨lk_12_382, List.forall_mem_cons.mpr ⟨lk_12_385, List.forall_mem_cons.mpr ⟨lk_12_388, List.forall_mem_cons.mpr ⟨lk_12_391, List.forall_mem_cons.mpr ⟨lk_12_394, List.forall_mem_cons.mpr ⟨lk_12_397, List.forall_mem_cons.mpr ⟨lk_12_400, List.forall_mem_cons.mpr ⟨lk_12_403, List.forall_mem_cons.mpr ⟨lk_12_406, List.forall_mem_cons.mpr ⟨lk_12_408, List.forall_mem_cons.mpr ⟨lk_12_411, List.forall_mem_cons.mpr ⟨lk_12_414, List.forall_mem_cons.mpr ⟨lk_12_419, List.forall_mem_cons.mpr ⟨lk_12_422, List.forall_mem_cons.mpr ⟨lk_12_426, List.forall_mem_cons.mpr ⟨lk_12_433, List.forall_mem_cons.mpr ⟨lk_12_436, List.forall_mem_cons.mpr ⟨lk_12_439, List.forall_mem_cons.mpr ⟨lk_12_442, List.forall_mem_cons.mpr ⟨lk_12_445, List.forall_mem_cons.mpr ⟨lk_12_449, fun _ h => absurd h List.not_mem_nil⟩⟩⟩⟩⟩⟩⟩⟩⟩⟩⟩⟩⟩⟩⟩⟩⟩⟩⟩⟩⟩⟩⟩⟩⟩⟩⟩⟩⟩⟩⟩⟩⟩⟩⟩⟩⟩⟩⟩⟩⟩⟩⟩⟩⟩⟩⟩⟩⟩⟩⟩⟩⟩⟩⟩⟩⟩⟩⟩⟩⟩⟩⟩⟩⟩⟩⟩⟩⟩⟩⟩⟩⟩⟩⟩⟩
set_option maxRecDepth 100000 in
theorem mlk_13 : ∀ e ∈ mlL 13, lOK 13 e.1 e.2.1 e.2.2 := List.forall_mem_cons.mpr ⟨lk_13_7, List.forall_mem_cons.mpr ⟨lk_13_15, List.forall_mem_cons.mpr ⟨lk_13_18, List.forall_mem_cons.mpr ⟨lk_13_21, List.forall_mem_cons.mpr ⟨lk_13_24, List.forall_mem_cons.mpr ⟨lk_13_27, List.forall_mem_cons.mpr ⟨lk_13_33, List.forall_mem_cons.mpr ⟨lk_13_36, List.forall_mem_cons.mpr ⟨lk_13_39, List.forall_mem_cons.mpr ⟨lk_13_42, List.forall_mem_cons.mpr ⟨lk_13_46, List.forall_mem_cons.mpr ⟨lk_13_49, List.forall_mem_cons.mpr ⟨lk_13_52, List.forall_mem_cons.mpr ⟨lk_13_55, List.forall_mem_cons.mpr ⟨lk_13_58, List.forall_mem_cons.mpr ⟨lk_13_61, List.forall_mem_cons.mpr ⟨lk_13_64, List.forall_mem_cons.mpr ⟨lk_13_67, List.forall_mem_cons.mpr ⟨lk_13_71, List.forall_mem_cons.mpr ⟨lk_13_75, List.forall_mem_cons.mpr ⟨lk_13_78, List.forall_mem_cons.mpr ⟨lk_13_81, List.forall_mem_cons.mpr ⟨lk_13_84, List.forall_mem_cons.mpr ⟨lk_13_87, List.forall_mem_cons.mpr ⟨lk_13_90, List.forall_mem_cons.mpr ⟨lk_13_93, List.forall_mem_cons.mpr ⟨lk_13_96, List.forall_mem_cons.mpr ⟨lk_13_99, List.forall_mem_cons.mpr ⟨lk_13_102, List.forall_mem_cons.mpr ⟨lk_13_105, List.forall_mem_cons.mpr ⟨lk_13_109, List.forall_mem_cons.mpr ⟨lk_13_113, List.forall_mem_cons.mpr ⟨lk_13_116, List.forall_mem_cons.mpr ⟨lk_13_117, List.forall_mem_cons.mpr ⟨lk_13_121, List.forall_mem_cons.mpr ⟨lk_13_122, List.forall_mem_cons.mpr ⟨lk_13_127, List.forall_mem_cons.mpr ⟨lk_13_128, List.forall_mem_cons.mpr ⟨lk_13_132, List.forall_mem_cons.mpr ⟨lk_13_134, List.forall_mem_cons.mpr ⟨lk_13_135, List.forall_mem_cons.mpr ⟨lk_13_137, List.forall_mem_cons.mpr ⟨lk_13_138, List.forall_mem_cons.mpr ⟨lk_13_140, List.forall_mem_cons.mpr ⟨lk_13_141, List.forall_mem_cons.mpr ⟨lk_13_144, List.forall_mem_cons.mpr ⟨lk_13_145, List.forall_mem_cons.mpr ⟨lk_13_148, List.forall_mem_cons.mpr ⟨lk_13_149, List.forall_mem_cons.mpr ⟨lk_13_151, List.forall_mem_cons.mpr ⟨lk_13_152, List.forall_mem_cons.mpr ⟨lk_13_155, List.forall_mem_cons.mpr ⟨lk_13_156, List.forall_mem_cons.mpr ⟨lk_13_158, List.forall_mem_cons.mpr ⟨lk_13_159, List.forall_mem_cons.mpr ⟨lk_13_161, List.forall_mem_cons.mpr ⟨lk_13_162, List.forall_mem_cons.mpr ⟨lk_13_164, List.forall_mem_cons.mpr ⟨lk_13_165, List.forall_mem_cons.mpr ⟨lk_13_168, List.forall_mem_cons.mpr ⟨lk_13_169, List.forall_mem_cons.mpr ⟨lk_13_171, List.forall_mem_cons.mpr ⟨lk_13_172, List.forall_mem_cons.mpr ⟨lk_13_174, List.forall_mem_cons.mpr ⟨lk_13_175, List.forall_mem_cons.mpr ⟨lk_13_178, List.forall_mem_cons.mpr ⟨lk_13_179, List.forall_mem_cons.mpr ⟨lk_13_181, List.forall_mem_cons.mpr ⟨lk_13_182, List.forall_mem_cons.mpr ⟨lk_13_184, List.forall_mem_cons.mpr ⟨lk_13_185, List.forall_mem_cons.mpr ⟨lk_13_187, List.forall_mem_cons.mpr ⟨lk_13_188, List.forall_mem_cons.mpr ⟨lk_13_190, List.forall_mem_cons.mpr ⟨lk_13_191, List.forall_mem_cons.mpr ⟨lk_13_193, List.forall_mem_cons.mpr ⟨lk_13_194, List.forall_mem_cons.mpr ⟨lk_13_197, List.forall_mem_cons.mpr ⟨lk_13_198, List.forall_mem_cons.mpr ⟨lk_13_201, List.forall_mem_cons.mpr ⟨lk_13_202, List.forall_mem_cons.mpr ⟨lk_13_204, List.forall_mem_cons.mpr ⟨lk_13_205, List.forall_mem_cons.mpr ⟨lk_13_207, List.forall_mem_cons.mpr ⟨lk_13_208, List.forall_mem_cons.mpr ⟨lk_13_211, List.forall_mem_cons.mpr ⟨lk_13_212, List.forall_mem_cons.mpr ⟨lk_13_214, List.forall_mem_cons.mpr ⟨lk_13_215, List.forall_mem_cons.mpr ⟨lk_13_217, List.forall_mem_cons.mpr ⟨lk_13_218, List.forall_mem_cons.mpr ⟨lk_13_221, List.forall_mem_cons.mpr ⟨lk_13_222, List.forall_mem_cons.mpr ⟨lk_13_224, List.forall_mem_cons.mpr ⟨lk_13_225, List.forall_mem_cons.mpr ⟨lk_13_227, List.forall_mem_cons.mpr ⟨lk_13_228, List.forall_mem_cons.mpr ⟨lk_13_230, List.forall_mem_cons.mpr ⟨lk_13_231, List.forall_mem_cons.mpr ⟨lk_13_233, List.forall_mem_cons.mpr ⟨lk_13_234, List.forall_mem_cons.mpr ⟨lk_13_236, List.forall_mem_cons.mpr ⟨lk_13_237, List.forall_mem_cons.mpr ⟨lk_13_240, List.forall_mem_cons.mpr ⟨lk_13_241, List.forall_mem_cons.mpr ⟨lk_13_243, List.forall_mem_cons.mpr ⟨lk_13_244, List.forall_mem_cons.mpr ⟨lk_13_246, List.forall_mem_cons.mpr ⟨lk_13_247, List.forall_mem_cons.mpr ⟨lk_13_250, List.forall_mem_cons.mpr ⟨lk_13_251, List.forall_mem_cons.mpr ⟨lk_13_254, List.forall_mem_cons.mpr ⟨lk_13_255, List.forall_mem_cons.mpr ⟨lk_13_258, List.forall_mem_cons.mpr ⟨lk_13_259, List.forall_mem_cons.mpr ⟨lk_13_262, List.forall_mem_cons.mpr ⟨lk_13_263, List.forall_mem_cons.mpr ⟨lk_13_266, fun _ h => absurd h List.not_mem_nil⟩⟩⟩⟩⟩⟩⟩⟩⟩⟩⟩⟩⟩⟩⟩⟩⟩⟩⟩⟩⟩⟩⟩⟩⟩⟩⟩⟩⟩⟩⟩⟩⟩⟩⟩⟩⟩⟩⟩⟩⟩⟩⟩⟩⟩⟩⟩⟩⟩⟩⟩⟩⟩⟩⟩⟩⟩⟩⟩⟩⟩⟩⟩⟩⟩⟩⟩⟩⟩⟩⟩⟩⟩⟩⟩⟩⟩⟩⟩⟩⟩⟩⟩⟩⟩⟩⟩⟩⟩⟩⟩⟩⟩⟩⟩⟩⟩⟩⟩⟩⟩⟩⟩⟩⟩⟩⟩⟩⟩⟩⟩⟩⟩⟩⟩⟩⟩⟩
theorem ml_ok {o idx : Nat} {v : _} (h : ml o idx = some v) : (fun (o : Nat) (e : Nat × _) => lOK o e.1 e.2.1 e.2.2) o (idx, v) := by
  have hm := look_mem h
  unfold mlL at hm
  split at hm
  · exact mlk_0 _ hm
  · exact mlk_1 _ hm
  · exact mlk_2 _ hm
  · exact mlk_3 _ hm
  · exact mlk_4 _ hm
  · exact mlk_5 _ hm
  · exact mlk_6 _ hm
  · exact mlk_7 _ hm
  · exact mlk_8 _ hm
  · exact mlk_9 _ hm
  · exact mlk_10 _ hm
  · exact mlk_11 _ hm
  · exact mlk_12 _ hm
  · exact mlk_13 _ hm
  · cases hm
