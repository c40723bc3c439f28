/-- the words that hold in every warmer state too -/
def lw_gd : List Cond := lw_tbl.filter goodWord
theorem lw_gd_in : ∀ w ∈ lw_gd, w ∈ lw_tbl := fun _ h => (List.mem_filter.mp h).1
theorem px_in {w : Cond} (i : Nat) (h : lw_tbl[i]? = some w) (hg : goodWord w = true) : w ∈ lw_gd := List.mem_filter.mpr ⟨List.mem_of_getElem? h, hg⟩
theorem px_t1 : ∀ w ∈ tables_1_1, w ∈ lw_tbl := fun w h => List.mem_append_right _ (show w ∈ tables_1_1 ++ (tables_1_2 ++ (tables_1_3 ++ (tables_1_4 ++ (tables_1_5 ++ (tables_1_6 ++ (tables_1_7 ++ (tables_1_8 ++ tables_1_9))))))) from List.mem_append_left _ h)
theorem px_in1 {w : Cond} (i : Nat) (h : tables_1_1[i]? = some w) (hg : goodWord w = true) : w ∈ lw_gd := List.mem_filter.mpr ⟨px_t1 _ (List.mem_of_getElem? h), hg⟩
theorem px_t2 : ∀ w ∈ tables_1_2, w ∈ lw_tbl := fun w h => List.mem_append_right _ (show w ∈ tables_1_1 ++ (tables_1_2 ++ (tables_1_3 ++ (tables_1_4 ++ (tables_1_5 ++ (tables_1_6 ++ (tables_1_7 ++ (tables_1_8 ++ tables_1_9))))))) from List.mem_append_right _ (List.mem_append_left _ h))
theorem px_in2 {w : Cond} (i : Nat) (h : tables_1_2[i]? = some w) (hg : goodWord w = true) : w ∈ lw_gd := List.mem_filter.mpr ⟨px_t2 _ (List.mem_of_getElem? h), hg⟩
theorem px_t3 : ∀ w ∈ tables_1_3, w ∈ lw_tbl := fun w h => List.mem_append_right _ (show w ∈ tables_1_1 ++ (tables_1_2 ++ (tables_1_3 ++ (tables_1_4 ++ (tables_1_5 ++ (tables_1_6 ++ (tables_1_7 ++ (tables_1_8 ++ tables_1_9))))))) from List.mem_append_right _ (List.mem_append_right _ (List.mem_append_left _ h)))
theorem px_in3 {w : Cond} (i : Nat) (h : tables_1_3[i]? = some w) (hg : goodWord w = true) : w ∈ lw_gd := List.mem_filter.mpr ⟨px_t3 _ (List.mem_of_getElem? h), hg⟩
theorem px_t4 : ∀ w ∈ tables_1_4, w ∈ lw_tbl := fun w h => List.mem_append_right _ (show w ∈ tables_1_1 ++ (tables_1_2 ++ (tables_1_3 ++ (tables_1_4 ++ (tables_1_5 ++ (tables_1_6 ++ (tables_1_7 ++ (tables_1_8 ++ tables_1_9))))))) from List.mem_append_right _ (List.mem_append_right _ (List.mem_append_right _ (List.mem_append_left _ h))))
theorem px_in4 {w : Cond} (i : Nat) (h : tables_1_4[i]? = some w) (hg : goodWord w = true) : w ∈ lw_gd := List.mem_filter.mpr ⟨px_t4 _ (List.mem_of_getElem? h), hg⟩
theorem px_t5 : ∀ w ∈ tables_1_5, w ∈ lw_tbl := fun w h => List.mem_append_right _ (show w ∈ tables_1_1 ++ (tables_1_2 ++ (tables_1_3 ++ (tables_1_4 ++ (tables_1_5 ++ (tables_1_6 ++ (tables_1_7 ++ (tables_1_8 ++ tables_1_9))))))) from List.mem_append_right _ (List.mem_append_right _ (List.mem_append_right _ (List.mem_append_right _ (List.mem_append_left _ h)))))
theorem px_in5 {w : Cond} (i : Nat) (h : tables_1_5[i]? = some w) (hg : goodWord w = true) : w ∈ lw_gd := List.mem_filter.mpr ⟨px_t5 _ (List.mem_of_getElem? h), hg⟩
theorem px_t6 : ∀ w ∈ tables_1_6, w ∈ lw_tbl := fun w h => List.mem_append_right _ (show w ∈ tables_1_1 ++ (tables_1_2 ++ (tables_1_3 ++ (tables_1_4 ++ (tables_1_5 ++ (tables_1_6 ++ (tables_1_7 ++ (tables_1_8 ++ tables_1_9))))))) from List.mem_append_right _ (List.mem_append_right _ (List.mem_append_right _ (List.mem_append_right _ (List.mem_append_right _ (List.mem_append_left _ h))))))
theorem px_in6 {w : Cond} (i : Nat) (h : tables_1_6[i]? = some w) (hg : goodWord w = true) : w ∈ lw_gd := List.mem_filter.mpr ⟨px_t6 _ (List.mem_of_getElem? h), hg⟩
theorem px_t7 : ∀ w ∈ tables_1_7, w ∈ lw_tbl := fun w h => List.mem_append_right _ (show w ∈ tables_1_1 ++ (tables_1_2 ++ (tables_1_3 ++ (tables_1_4 ++ (tables_1_5 ++ (tables_1_6 ++ (tables_1_7 ++ (tables_1_8 ++ tables_1_9))))))) from List.mem_append_right _ (List.mem_append_right _ (List.mem_append_right _ (List.mem_append_right _ (List.mem_append_right _ (List.mem_append_right _ (List.mem_append_left _ h)))))))
theorem px_in7 {w : Cond} (i : Nat) (h : tables_1_7[i]? = some w) (hg : goodWord w = true) : w ∈ lw_gd := List.mem_filter.mpr ⟨px_t7 _ (List.mem_of_getElem? h), hg⟩
theorem px_t8 : ∀ w ∈ tables_1_8, w ∈ lw_tbl := fun w h => List.mem_append_right _ (show w ∈ tables_1_1 ++ (tables_1_2 ++ (tables_1_3 ++ (tables_1_4 ++ (tables_1_5 ++ (tables_1_6 ++ (tables_1_7 ++ (tables_1_8 ++ tables_1_9))))))) from List.mem_append_right _ (List.mem_append_right _ (List.mem_append_right _ (List.mem_append_right _ (List.mem_append_right _ (List.mem_append_right _ (List.mem_append_right _ (List.mem_append_left _ h))))))))
theorem px_in8 {w : Cond} (i : Nat) (h : tables_1_8[i]? = some w) (hg : goodWord w = true) : w ∈ lw_gd := List.mem_filter.mpr ⟨px_t8 _ (List.mem_of_getElem? h), hg⟩
theorem px_t9 : ∀ w ∈ tables_1_9, w ∈ lw_tbl := fun w h => List.mem_append_right _ (show w ∈ tables_1_1 ++ (tables_1_2 ++ (tables_1_3 ++ (tables_1_4 ++ (tables_1_5 ++ (tables_1_6 ++ (tables_1_7 ++ (tables_1_8 ++ tables_1_9))))))) from List.mem_append_right _ (List.mem_append_right _ (List.mem_append_right _ (List.mem_append_right _ (List.mem_append_right _ (List.mem_append_right _ (List.mem_append_right _ (List.mem_append_right _ (h)))))))))
theorem px_in9 {w : Cond} (i : Nat) (h : tables_1_9[i]? = some w) (hg : goodWord w = true) : w ∈ lw_gd := List.mem_filter.mpr ⟨px_t9 _ (List.mem_of_getElem? h), hg⟩
theorem px_inP1 {w : Cond} (i : Nat) (h : (k2_sels lw_privs_1)[i]? = some w) (hg : goodWord w = true) : w ∈ lw_gd := by
  refine List.mem_filter.mpr ⟨List.mem_append_left _ ?_, hg⟩
  obtain ⟨q, hq, rfl⟩ := List.mem_map.mp (List.mem_of_getElem? h)
  exact List.mem_map.mpr ⟨q, (show q ∈ lw_privs_1 ++ (lw_privs_2 ++ (lw_privs_3 ++ (lw_privs_4 ++ (lw_privs_5 ++ (lw_privs_6 ++ lw_privs_7))))) from List.mem_append_left _ hq), rfl⟩
theorem px_inP2 {w : Cond} (i : Nat) (h : (k2_sels lw_privs_2)[i]? = some w) (hg : goodWord w = true) : w ∈ lw_gd := by
  refine List.mem_filter.mpr ⟨List.mem_append_left _ ?_, hg⟩
  obtain ⟨q, hq, rfl⟩ := List.mem_map.mp (List.mem_of_getElem? h)
  exact List.mem_map.mpr ⟨q, (show q ∈ lw_privs_1 ++ (lw_privs_2 ++ (lw_privs_3 ++ (lw_privs_4 ++ (lw_privs_5 ++ (lw_privs_6 ++ lw_privs_7))))) from List.mem_append_right _ (List.mem_append_left _ hq)), rfl⟩
theorem px_inP3 {w : Cond} (i : Nat) (h : (k2_sels lw_privs_3)[i]? = some w) (hg : goodWord w = true) : w ∈ lw_gd := by
  refine List.mem_filter.mpr ⟨List.mem_append_left _ ?_, hg⟩
  obtain ⟨q, hq, rfl⟩ := List.mem_map.mp (List.mem_of_getElem? h)
  exact List.mem_map.mpr ⟨q, (show q ∈ lw_privs_1 ++ (lw_privs_2 ++ (lw_privs_3 ++ (lw_privs_4 ++ (lw_privs_5 ++ (lw_privs_6 ++ lw_privs_7))))) from List.mem_append_right _ (List.mem_append_right _ (List.mem_append_left _ hq))), rfl⟩
theorem px_inP4 {w : Cond} (i : Nat) (h : (k2_sels lw_privs_4)[i]? = some w) (hg : goodWord w = true) : w ∈ lw_gd := by
  refine List.mem_filter.mpr ⟨List.mem_append_left _ ?_, hg⟩
  obtain ⟨q, hq, rfl⟩ := List.mem_map.mp (List.mem_of_getElem? h)
  exact List.mem_map.mpr ⟨q, (show q ∈ lw_privs_1 ++ (lw_privs_2 ++ (lw_privs_3 ++ (lw_privs_4 ++ (lw_privs_5 ++ (lw_privs_6 ++ lw_privs_7))))) from List.mem_append_right _ (List.mem_append_right _ (List.mem_append_right _ (List.mem_append_left _ hq)))), rfl⟩
theorem px_inP5 {w : Cond} (i : Nat) (h : (k2_sels lw_privs_5)[i]? = some w) (hg : goodWord w = true) : w ∈ lw_gd := by
  refine List.mem_filter.mpr ⟨List.mem_append_left _ ?_, hg⟩
  obtain ⟨q, hq, rfl⟩ := List.mem_map.mp (List.mem_of_getElem? h)
  exact List.mem_map.mpr ⟨q, (show q ∈ lw_privs_1 ++ (lw_privs_2 ++ (lw_privs_3 ++ (lw_privs_4 ++ (lw_privs_5 ++ (lw_privs_6 ++ lw_privs_7))))) from List.mem_append_right _ (List.mem_append_right _ (List.mem_append_right _ (List.mem_append_right _ (List.mem_append_left _ hq))))), rfl⟩
theorem px_inP6 {w : Cond} (i : Nat) (h : (k2_sels lw_privs_6)[i]? = some w) (hg : goodWord w = true) : w ∈ lw_gd := by
  refine List.mem_filter.mpr ⟨List.mem_append_left _ ?_, hg⟩
  obtain ⟨q, hq, rfl⟩ := List.mem_map.mp (List.mem_of_getElem? h)
  exact List.mem_map.mpr ⟨q, (show q ∈ lw_privs_1 ++ (lw_privs_2 ++ (lw_privs_3 ++ (lw_privs_4 ++ (lw_privs_5 ++ (lw_privs_6 ++ lw_privs_7))))) from List.mem_append_right _ (List.mem_append_right _ (List.mem_append_right _ (List.mem_append_right _ (List.mem_append_right _ (List.mem_append_left _ hq)))))), rfl⟩
theorem px_inP7 {w : Cond} (i : Nat) (h : (k2_sels lw_privs_7)[i]? = some w) (hg : goodWord w = true) : w ∈ lw_gd := by
  refine List.mem_filter.mpr ⟨List.mem_append_left _ ?_, hg⟩
  obtain ⟨q, hq, rfl⟩ := List.mem_map.mp (List.mem_of_getElem? h)
  exact List.mem_map.mpr ⟨q, (show q ∈ lw_privs_1 ++ (lw_privs_2 ++ (lw_privs_3 ++ (lw_privs_4 ++ (lw_privs_5 ++ (lw_privs_6 ++ lw_privs_7))))) from List.mem_append_right _ (List.mem_append_right _ (List.mem_append_right _ (List.mem_append_right _ (List.mem_append_right _ (List.mem_append_right _ (hq))))))), rfl⟩
theorem px_among {ws : List Cond} (ps : List Nat) (hp : ws = ps.filterMap (fun i => lw_tbl[i]?)) (hg : ws.all goodWord = true) : ∀ w ∈ ws, w ∈ lw_gd := by
  intro w hw
  refine List.mem_filter.mpr ⟨?_, List.all_eq_true.mp hg w hw⟩
  rw [hp] at hw
  obtain ⟨i, -, hi⟩ := List.mem_filterMap.mp hw
  exact List.mem_of_getElem? hi
def RX0 : String := "NettleGreen$Circle"
def TX0 : u_T := fun k => match k with
  | _ => ("NettleGreen$Circle", "company", "[I", true)
def tyX0 : Nat → FieldType := fun k => match k with
  | _ => .array .int
theorem nmX0 : ∀ a, a < 1 → ∀ b, b < 1 → a ≠ b → (TX0 a).2.1 ≠ (TX0 b).2.1 := by decide +kernel
theorem tyX0_ok : ∀ k, k < 1 → parseFieldDescriptor (TX0 k).2.2.1 = some (tyX0 k) := by decide +kernel
theorem inX0 : ∀ w ∈ u_ws RX0 TX0 1, w ∈ lw_gd := px_among [482] (by decide +kernel) (by decide +kernel)
def RX1 : String := "NettleGreen$Formula"
def TX1 : u_T := fun k => match k with
  | 0 => ("NettleGreen$Formula", "steps", "[I", true)
  | 1 => ("NettleGreen$Formula", "stack", "[I", true)
  | 2 => ("NettleGreen$Formula", "length", "I", false)
  | _ => ("NettleGreen$Formula", "units", "I", false)
def tyX1 : Nat → FieldType := fun k => match k with
  | 0 => .array .int
  | 1 => .array .int
  | 2 => .int
  | _ => .int
theorem nmX1 : ∀ a, a < 4 → ∀ b, b < 4 → a ≠ b → (TX1 a).2.1 ≠ (TX1 b).2.1 := by decide +kernel
theorem tyX1_ok : ∀ k, k < 4 → parseFieldDescriptor (TX1 k).2.2.1 = some (tyX1 k) := by decide +kernel
theorem inX1 : ∀ w ∈ u_ws RX1 TX1 4, w ∈ lw_gd := px_among [157, 159, 161, 163] (by decide +kernel) (by decide +kernel)
def RX2 : String := "NettleGreen$Hamlet"
def TX2 : u_T := fun k => match k with
  | 0 => ("NettleGreen$Hamlet", "people", "I", false)
  | 1 => ("NettleGreen$Hamlet", "firm", "[I", true)
  | 2 => ("NettleGreen$Hamlet", "learns", "[I", true)
  | 3 => ("NettleGreen$Hamlet", "lumps", "[I", true)
  | 4 => ("NettleGreen$Hamlet", "meetings", "I", false)
  | 5 => ("NettleGreen$Hamlet", "first", "[I", true)
  | 6 => ("NettleGreen$Hamlet", "second", "[I", true)
  | 7 => ("NettleGreen$Hamlet", "weekday", "[I", true)
  | 8 => ("NettleGreen$Hamlet", "brothers", "I", false)
  | 9 => ("NettleGreen$Hamlet", "cools", "[I", true)
  | 10 => ("NettleGreen$Hamlet", "roundSize", "[I", true)
  | 11 => ("NettleGreen$Hamlet", "rounds", "[I", true)
  | 12 => ("NettleGreen$Hamlet", "bed", "I", false)
  | 13 => ("NettleGreen$Hamlet", "flares", "I", false)
  | 14 => ("NettleGreen$Hamlet", "draw", "I", false)
  | _ => ("NettleGreen$Hamlet", "formula", "LNettleGreen$Formula;", true)
def tyX2 : Nat → FieldType := fun k => match k with
  | 0 => .int
  | 1 => .array .int
  | 2 => .array .int
  | 3 => .array .int
  | 4 => .int
  | 5 => .array .int
  | 6 => .array .int
  | 7 => .array .int
  | 8 => .int
  | 9 => .array .int
  | 10 => .array .int
  | 11 => .array .int
  | 12 => .int
  | 13 => .int
  | 14 => .int
  | _ => .object "NettleGreen$Formula"
theorem nmX2 : ∀ a, a < 16 → ∀ b, b < 16 → a ≠ b → (TX2 a).2.1 ≠ (TX2 b).2.1 := by decide +kernel
theorem tyX2_ok : ∀ k, k < 16 → parseFieldDescriptor (TX2 k).2.2.1 = some (tyX2 k) := by decide +kernel
theorem inX2 : ∀ w ∈ u_ws RX2 TX2 16, w ∈ lw_gd := px_among [245, 247, 249, 251, 253, 255, 257, 259, 261, 263, 265, 267, 269, 271, 273, 275] (by decide +kernel) (by decide +kernel)
def RX3 : String := "NettleGreen$Ledger"
def TX3 : u_T := fun k => match k with
  | 0 => ("NettleGreen$Ledger", "rows", "[I", true)
  | 1 => ("NettleGreen$Ledger", "at", "I", false)
  | _ => ("NettleGreen$Ledger", "top", "I", false)
def tyX3 : Nat → FieldType := fun k => match k with
  | 0 => .array .int
  | 1 => .int
  | _ => .int
theorem nmX3 : ∀ a, a < 3 → ∀ b, b < 3 → a ≠ b → (TX3 a).2.1 ≠ (TX3 b).2.1 := by decide +kernel
theorem tyX3_ok : ∀ k, k < 3 → parseFieldDescriptor (TX3 k).2.2.1 = some (tyX3 k) := by decide +kernel
theorem inX3 : ∀ w ∈ u_ws RX3 TX3 3, w ∈ lw_gd := px_among [445, 447, 449] (by decide +kernel) (by decide +kernel)
def RX4 : String := "NettleGreen$Outlook"
def TX4 : u_T := fun k => match k with
  | 0 => ("NettleGreen$Outlook", "ahead", "LNettleGreen$State;", true)
  | 1 => ("NettleGreen$Outlook", "triedRounds", "[I", true)
  | 2 => ("NettleGreen$Outlook", "chosen", "I", false)
  | _ => ("NettleGreen$Outlook", "chosenHurt", "I", false)
def tyX4 : Nat → FieldType := fun k => match k with
  | 0 => .object "NettleGreen$State"
  | 1 => .array .int
  | 2 => .int
  | _ => .int
theorem nmX4 : ∀ a, a < 4 → ∀ b, b < 4 → a ≠ b → (TX4 a).2.1 ≠ (TX4 b).2.1 := by decide +kernel
theorem tyX4_ok : ∀ k, k < 4 → parseFieldDescriptor (TX4 k).2.2.1 = some (tyX4 k) := by decide +kernel
theorem inX4 : ∀ w ∈ u_ws RX4 TX4 4, w ∈ lw_gd := px_among [466, 468, 470, 472] (by decide +kernel) (by decide +kernel)
def RX5 : String := "NettleGreen$Parser"
def TX5 : u_T := fun k => match k with
  | 0 => ("NettleGreen$Parser", "scanner", "LNettleGreen$Scanner;", true)
  | 1 => ("NettleGreen$Parser", "personNames", "[J", true)
  | 2 => ("NettleGreen$Parser", "brotherNames", "[J", true)
  | 3 => ("NettleGreen$Parser", "draft", "LNettleGreen$Hamlet;", false)
  | 4 => ("NettleGreen$Parser", "toldOnce", "I", false)
  | 5 => ("NettleGreen$Parser", "faultKind", "I", false)
  | _ => ("NettleGreen$Parser", "faultPlace", "I", false)
def tyX5 : Nat → FieldType := fun k => match k with
  | 0 => .object "NettleGreen$Scanner"
  | 1 => .array .long
  | 2 => .array .long
  | 3 => .object "NettleGreen$Hamlet"
  | 4 => .int
  | 5 => .int
  | _ => .int
theorem nmX5 : ∀ a, a < 7 → ∀ b, b < 7 → a ≠ b → (TX5 a).2.1 ≠ (TX5 b).2.1 := by decide +kernel
theorem tyX5_ok : ∀ k, k < 7 → parseFieldDescriptor (TX5 k).2.2.1 = some (tyX5 k) := by decide +kernel
theorem inX5 : ∀ w ∈ u_ws RX5 TX5 7, w ∈ lw_gd := px_among [384, 386, 388, 390, 392, 394, 396] (by decide +kernel) (by decide +kernel)
def RX6 : String := "NettleGreen$Scanner"
def TX6 : u_T := fun k => match k with
  | 0 => ("NettleGreen$Scanner", "keywords", "[J", true)
  | 1 => ("NettleGreen$Scanner", "text", "[B", false)
  | 2 => ("NettleGreen$Scanner", "length", "I", false)
  | 3 => ("NettleGreen$Scanner", "at", "I", false)
  | 4 => ("NettleGreen$Scanner", "kind", "I", false)
  | 5 => ("NettleGreen$Scanner", "value", "I", false)
  | 6 => ("NettleGreen$Scanner", "spelling", "J", false)
  | _ => ("NettleGreen$Scanner", "place", "I", false)
def tyX6 : Nat → FieldType := fun k => match k with
  | 0 => .array .long
  | 1 => .array .byte
  | 2 => .int
  | 3 => .int
  | 4 => .int
  | 5 => .int
  | 6 => .long
  | _ => .int
theorem nmX6 : ∀ a, a < 8 → ∀ b, b < 8 → a ≠ b → (TX6 a).2.1 ≠ (TX6 b).2.1 := by decide +kernel
theorem tyX6_ok : ∀ k, k < 8 → parseFieldDescriptor (TX6 k).2.2.1 = some (tyX6 k) := by decide +kernel
theorem inX6 : ∀ w ∈ u_ws RX6 TX6 8, w ∈ lw_gd := px_among [355, 357, 359, 361, 363, 365, 367, 369] (by decide +kernel) (by decide +kernel)
def RX7 : String := "NettleGreen$Sightings"
def TX7 : u_T := fun k => match k with
  | 0 => ("NettleGreen$Sightings", "days", "[I", true)
  | 1 => ("NettleGreen$Sightings", "who", "[I", true)
  | 2 => ("NettleGreen$Sightings", "atLeast", "[I", true)
  | 3 => ("NettleGreen$Sightings", "was", "[Z", true)
  | 4 => ("NettleGreen$Sightings", "toldAt", "[I", true)
  | 5 => ("NettleGreen$Sightings", "untoldAt", "[I", true)
  | 6 => ("NettleGreen$Sightings", "chart", "[B", true)
  | 7 => ("NettleGreen$Sightings", "isCharted", "Z", false)
  | 8 => ("NettleGreen$Sightings", "alike", "[I", true)
  | 9 => ("NettleGreen$Sightings", "past", "LNettleGreen$State;", true)
  | 10 => ("NettleGreen$Sightings", "count", "I", false)
  | _ => ("NettleGreen$Sightings", "time", "I", false)
def tyX7 : Nat → FieldType := fun k => match k with
  | 0 => .array .int
  | 1 => .array .int
  | 2 => .array .int
  | 3 => .array .boolean
  | 4 => .array .int
  | 5 => .array .int
  | 6 => .array .byte
  | 7 => .boolean
  | 8 => .array .int
  | 9 => .object "NettleGreen$State"
  | 10 => .int
  | _ => .int
theorem nmX7 : ∀ a, a < 12 → ∀ b, b < 12 → a ≠ b → (TX7 a).2.1 ≠ (TX7 b).2.1 := by decide +kernel
theorem tyX7_ok : ∀ k, k < 12 → parseFieldDescriptor (TX7 k).2.2.1 = some (tyX7 k) := by decide +kernel
theorem inX7 : ∀ w ∈ u_ws RX7 TX7 12, w ∈ lw_gd := px_among [507, 509, 511, 513, 515, 517, 519, 521, 523, 525, 527, 529] (by decide +kernel) (by decide +kernel)
def RX8 : String := "NettleGreen$State"
def TX8 : u_T := fun k => match k with
  | 0 => ("NettleGreen$State", "lumps", "[I", true)
  | 1 => ("NettleGreen$State", "firm", "[I", true)
  | 2 => ("NettleGreen$State", "forbidden", "I", false)
  | 3 => ("NettleGreen$State", "day", "I", false)
  | _ => ("NettleGreen$State", "seed", "I", false)
def tyX8 : Nat → FieldType := fun k => match k with
  | 0 => .array .int
  | 1 => .array .int
  | 2 => .int
  | 3 => .int
  | _ => .int
theorem nmX8 : ∀ a, a < 5 → ∀ b, b < 5 → a ≠ b → (TX8 a).2.1 ≠ (TX8 b).2.1 := by decide +kernel
theorem tyX8_ok : ∀ k, k < 5 → parseFieldDescriptor (TX8 k).2.2.1 = some (tyX8 k) := by decide +kernel
theorem inX8 : ∀ w ∈ u_ws RX8 TX8 5, w ∈ lw_gd := px_among [425, 427, 429, 431, 433] (by decide +kernel) (by decide +kernel)
def RX9 : String := "NettleGreen"
def TX9 : u_T := fun k => match k with
  | 0 => ("NettleGreen", "tape", "[B", true)
  | 1 => ("NettleGreen", "tapeLength", "I", false)
  | 2 => ("NettleGreen", "told", "LNettleGreen$Hamlet;", false)
  | 3 => ("NettleGreen", "faultKind", "I", false)
  | 4 => ("NettleGreen", "faultPlace", "I", false)
  | 5 => ("NettleGreen", "parser", "LNettleGreen$Parser;", true)
  | 6 => ("NettleGreen", "now", "LNettleGreen$State;", true)
  | 7 => ("NettleGreen", "ledger", "LNettleGreen$Ledger;", true)
  | 8 => ("NettleGreen", "boxes", "[I", true)
  | 9 => ("NettleGreen", "boxesInUse", "I", false)
  | 10 => ("NettleGreen", "outlook", "LNettleGreen$Outlook;", true)
  | 11 => ("NettleGreen", "circle", "LNettleGreen$Circle;", true)
  | 12 => ("NettleGreen", "sightings", "LNettleGreen$Sightings;", true)
  | 13 => ("NettleGreen", "lying", "[I", true)
  | _ => ("NettleGreen", "lyingCount", "I", false)
def tyX9 : Nat → FieldType := fun k => match k with
  | 0 => .array .byte
  | 1 => .int
  | 2 => .object "NettleGreen$Hamlet"
  | 3 => .int
  | 4 => .int
  | 5 => .object "NettleGreen$Parser"
  | 6 => .object "NettleGreen$State"
  | 7 => .object "NettleGreen$Ledger"
  | 8 => .array .int
  | 9 => .int
  | 10 => .object "NettleGreen$Outlook"
  | 11 => .object "NettleGreen$Circle"
  | 12 => .object "NettleGreen$Sightings"
  | 13 => .array .int
  | _ => .int
theorem nmX9 : ∀ a, a < 15 → ∀ b, b < 15 → a ≠ b → (TX9 a).2.1 ≠ (TX9 b).2.1 := by decide +kernel
theorem tyX9_ok : ∀ k, k < 15 → parseFieldDescriptor (TX9 k).2.2.1 = some (tyX9 k) := by decide +kernel
theorem inX9 : ∀ w ∈ u_ws RX9 TX9 15, w ∈ lw_gd := px_among [548, 550, 552, 554, 556, 558, 560, 562, 564, 566, 568, 570, 572, 574, 576] (by decide +kernel) (by decide +kernel)
def RX10 : String := "NettleGreenModel"
def TX10 : u_T := fun k => match k with
  | 0 => ("NettleGreenModel", "tape", "[I", true)
  | 1 => ("NettleGreenModel", "taped", "I", false)
  | 2 => ("NettleGreenModel", "fault", "I", false)
  | 3 => ("NettleGreenModel", "faultPlace", "I", false)
  | 4 => ("NettleGreenModel", "at", "I", false)
  | 5 => ("NettleGreenModel", "size", "I", false)
  | 6 => ("NettleGreenModel", "sort", "I", false)
  | 7 => ("NettleGreenModel", "place", "I", false)
  | 8 => ("NettleGreenModel", "number", "I", false)
  | 9 => ("NettleGreenModel", "word", "J", false)
  | 10 => ("NettleGreenModel", "nName", "[J", true)
  | 11 => ("NettleGreenModel", "nStep", "[I", true)
  | 12 => ("NettleGreenModel", "nArg", "[I", true)
  | 13 => ("NettleGreenModel", "step", "[I", true)
  | 14 => ("NettleGreenModel", "arg", "[I", true)
  | 15 => ("NettleGreenModel", "open", "[I", true)
  | 16 => ("NettleGreenModel", "values", "[I", true)
  | 17 => ("NettleGreenModel", "nMany", "I", false)
  | 18 => ("NettleGreenModel", "formSteps", "I", false)
  | 19 => ("NettleGreenModel", "opens", "I", false)
  | 20 => ("NettleGreenModel", "nUnits", "I", false)
  | 21 => ("NettleGreenModel", "units", "I", false)
  | 22 => ("NettleGreenModel", "ownUnits", "I", false)
  | 23 => ("NettleGreenModel", "deep", "I", false)
  | 24 => ("NettleGreenModel", "nHasForm", "Z", false)
  | 25 => ("NettleGreenModel", "hasForm", "Z", false)
  | 26 => ("NettleGreenModel", "asks", "[I", true)
  | 27 => ("NettleGreenModel", "nFirm", "[I", true)
  | 28 => ("NettleGreenModel", "nLearns", "[I", true)
  | 29 => ("NettleGreenModel", "nLumps", "[I", true)
  | 30 => ("NettleGreenModel", "nOne", "[I", true)
  | 31 => ("NettleGreenModel", "nTwo", "[I", true)
  | 32 => ("NettleGreenModel", "nOn", "[I", true)
  | 33 => ("NettleGreenModel", "nCools", "[I", true)
  | 34 => ("NettleGreenModel", "nRound", "[I", true)
  | 35 => ("NettleGreenModel", "nRoundMany", "[I", true)
  | 36 => ("NettleGreenModel", "firms", "[I", true)
  | 37 => ("NettleGreenModel", "learns", "[I", true)
  | 38 => ("NettleGreenModel", "lumps", "[I", true)
  | 39 => ("NettleGreenModel", "one", "[I", true)
  | 40 => ("NettleGreenModel", "two", "[I", true)
  | 41 => ("NettleGreenModel", "on", "[I", true)
  | 42 => ("NettleGreenModel", "cools", "[I", true)
  | 43 => ("NettleGreenModel", "rounds", "[I", true)
  | 44 => ("NettleGreenModel", "roundMany", "[I", true)
  | 45 => ("NettleGreenModel", "nPeople", "I", false)
  | 46 => ("NettleGreenModel", "nMeetings", "I", false)
  | 47 => ("NettleGreenModel", "nBrothers", "I", false)
  | 48 => ("NettleGreenModel", "nBed", "I", false)
  | 49 => ("NettleGreenModel", "nFlares", "I", false)
  | 50 => ("NettleGreenModel", "nDraw", "I", false)
  | 51 => ("NettleGreenModel", "people", "I", false)
  | 52 => ("NettleGreenModel", "meetings", "I", false)
  | 53 => ("NettleGreenModel", "brothers", "I", false)
  | 54 => ("NettleGreenModel", "bed", "I", false)
  | 55 => ("NettleGreenModel", "flares", "I", false)
  | 56 => ("NettleGreenModel", "seed", "I", false)
  | 57 => ("NettleGreenModel", "nHasBed", "Z", false)
  | 58 => ("NettleGreenModel", "nHasFlares", "Z", false)
  | 59 => ("NettleGreenModel", "nHasDraw", "Z", false)
  | 60 => ("NettleGreenModel", "now", "[I", true)
  | 61 => ("NettleGreenModel", "air", "[I", true)
  | 62 => ("NettleGreenModel", "were", "[I", true)
  | 63 => ("NettleGreenModel", "acts", "I", false)
  | 64 => ("NettleGreenModel", "undone", "I", false)
  | 65 => ("NettleGreenModel", "lies", "[I", true)
  | 66 => ("NettleGreenModel", "row", "[I", true)
  | 67 => ("NettleGreenModel", "kept", "[I", true)
  | 68 => ("NettleGreenModel", "lain", "I", false)
  | 69 => ("NettleGreenModel", "rowMany", "I", false)
  | 70 => ("NettleGreenModel", "ones", "[I", true)
  | 71 => ("NettleGreenModel", "others", "[I", true)
  | 72 => ("NettleGreenModel", "sightDays", "[I", true)
  | 73 => ("NettleGreenModel", "sightWho", "[I", true)
  | 74 => ("NettleGreenModel", "sightLumps", "[I", true)
  | 75 => ("NettleGreenModel", "sightTold", "[I", true)
  | 76 => ("NettleGreenModel", "sightUntold", "[I", true)
  | 77 => ("NettleGreenModel", "sightIs", "[Z", true)
  | 78 => ("NettleGreenModel", "sights", "I", false)
  | 79 => ("NettleGreenModel", "time", "I", false)
  | 80 => ("NettleGreenModel", "was", "[I", true)
  | 81 => ("NettleGreenModel", "tally", "[I", true)
  | 82 => ("NettleGreenModel", "isFit", "[Z", true)
  | 83 => ("NettleGreenModel", "hasBox", "[Z", true)
  | _ => ("NettleGreenModel", "boxes", "[I", true)
def tyX10 : Nat → FieldType := fun k => match k with
  | 0 => .array .int
  | 1 => .int
  | 2 => .int
  | 3 => .int
  | 4 => .int
  | 5 => .int
  | 6 => .int
  | 7 => .int
  | 8 => .int
  | 9 => .long
  | 10 => .array .long
  | 11 => .array .int
  | 12 => .array .int
  | 13 => .array .int
  | 14 => .array .int
  | 15 => .array .int
  | 16 => .array .int
  | 17 => .int
  | 18 => .int
  | 19 => .int
  | 20 => .int
  | 21 => .int
  | 22 => .int
  | 23 => .int
  | 24 => .boolean
  | 25 => .boolean
  | 26 => .array .int
  | 27 => .array .int
  | 28 => .array .int
  | 29 => .array .int
  | 30 => .array .int
  | 31 => .array .int
  | 32 => .array .int
  | 33 => .array .int
  | 34 => .array .int
  | 35 => .array .int
  | 36 => .array .int
  | 37 => .array .int
  | 38 => .array .int
  | 39 => .array .int
  | 40 => .array .int
  | 41 => .array .int
  | 42 => .array .int
  | 43 => .array .int
  | 44 => .array .int
  | 45 => .int
  | 46 => .int
  | 47 => .int
  | 48 => .int
  | 49 => .int
  | 50 => .int
  | 51 => .int
  | 52 => .int
  | 53 => .int
  | 54 => .int
  | 55 => .int
  | 56 => .int
  | 57 => .boolean
  | 58 => .boolean
  | 59 => .boolean
  | 60 => .array .int
  | 61 => .array .int
  | 62 => .array .int
  | 63 => .int
  | 64 => .int
  | 65 => .array .int
  | 66 => .array .int
  | 67 => .array .int
  | 68 => .int
  | 69 => .int
  | 70 => .array .int
  | 71 => .array .int
  | 72 => .array .int
  | 73 => .array .int
  | 74 => .array .int
  | 75 => .array .int
  | 76 => .array .int
  | 77 => .array .boolean
  | 78 => .int
  | 79 => .int
  | 80 => .array .int
  | 81 => .array .int
  | 82 => .array .boolean
  | 83 => .array .boolean
  | _ => .array .int
theorem nmX10 : ∀ a, a < 85 → ∀ b, b < 85 → a ≠ b → (TX10 a).2.1 ≠ (TX10 b).2.1 := by decide +kernel
theorem tyX10_ok : ∀ k, k < 85 → parseFieldDescriptor (TX10 k).2.2.1 = some (tyX10 k) := by decide +kernel
theorem inX10 : ∀ w ∈ u_ws RX10 TX10 85, w ∈ lw_gd := px_among [1367, 1369, 1371, 1373, 1375, 1377, 1379, 1381, 1383, 1385, 1387, 1389, 1391, 1393, 1395, 1397, 1399, 1401, 1403, 1405, 1407, 1409, 1411, 1413, 1415, 1417, 1419, 1421, 1423, 1425, 1427, 1429, 1431, 1433, 1435, 1437, 1439, 1441, 1443, 1445, 1447, 1449, 1451, 1453, 1455, 1457, 1459, 1461, 1463, 1465, 1467, 1469, 1471, 1473, 1475, 1477, 1479, 1481, 1483, 1485, 1487, 1489, 1491, 1493, 1495, 1497, 1499, 1501, 1503, 1505, 1507, 1509, 1511, 1513, 1515, 1517, 1519, 1521, 1523, 1525, 1527, 1529, 1531, 1533, 1535] (by decide +kernel) (by decide +kernel)
abbrev vwCl : List vw_C := [(RX0, TX0, 1), (RX1, TX1, 4), (RX2, TX2, 16), (RX3, TX3, 3), (RX4, TX4, 4), (RX5, TX5, 7), (RX6, TX6, 8), (RX7, TX7, 12), (RX8, TX8, 5), (RX9, TX9, 15), (RX10, TX10, 85)]
def px_N : Nat → Nat := fun c => match c with
  | 0 => 1
  | 1 => 4
  | 2 => 16
  | 3 => 3
  | 4 => 4
  | 5 => 7
  | 6 => 8
  | 7 => 12
  | 8 => 5
  | 9 => 15
  | _ => 85
def px_ty : Nat → Nat → FieldType := fun c => match c with
  | 0 => tyX0
  | 1 => tyX1
  | 2 => tyX2
  | 3 => tyX3
  | 4 => tyX4
  | 5 => tyX5
  | 6 => tyX6
  | 7 => tyX7
  | 8 => tyX8
  | 9 => tyX9
  | _ => tyX10
abbrev pm_T : Type := MethodName × ByteArray × Nat × Option FieldType
def mX0_init : pm_T := (⟨"NettleGreen$Circle", "<init>", "()V"⟩, prog_2_method_1_code, 1, none)
def mX0_companyOf : pm_T := (⟨"NettleGreen$Circle", "companyOf", "(LNettleGreen$Hamlet;II)I"⟩, prog_2_method_2_code, 6, some (Jvm.ClassFile.FieldType.int))
def mX0_stepsBetween : pm_T := (⟨"NettleGreen$Circle", "stepsBetween", "(LNettleGreen$Hamlet;III)I"⟩, prog_2_method_3_code, 9, some (Jvm.ClassFile.FieldType.int))
def mX0_fewestGroups : pm_T := (⟨"NettleGreen$Circle", "fewestGroups", "(LNettleGreen$Hamlet;I[I)I"⟩, prog_2_method_4_code, 5, some (Jvm.ClassFile.FieldType.int))
def mX0_isParted : pm_T := (⟨"NettleGreen$Circle", "isParted", "(III[I)Z"⟩, prog_2_method_5_code, 6, some (Jvm.ClassFile.FieldType.boolean))
def mX0_isFree : pm_T := (⟨"NettleGreen$Circle", "isFree", "(II[I)Z"⟩, prog_2_method_6_code, 5, some (Jvm.ClassFile.FieldType.boolean))
def mX1_init : pm_T := (⟨"NettleGreen$Formula", "<init>", "()V"⟩, prog_3_method_1_code, 1, none)
def mX1_clear : pm_T := (⟨"NettleGreen$Formula", "clear", "()V"⟩, prog_3_method_2_code, 1, none)
def mX1_setUntold : pm_T := (⟨"NettleGreen$Formula", "setUntold", "()V"⟩, prog_3_method_3_code, 1, none)
def mX1_add : pm_T := (⟨"NettleGreen$Formula", "add", "(I)V"⟩, prog_3_method_4_code, 2, none)
def mX1_lumpsLeft : pm_T := (⟨"NettleGreen$Formula", "lumpsLeft", "(IIII)I"⟩, prog_3_method_5_code, 8, some (Jvm.ClassFile.FieldType.int))
def mX1_known : pm_T := (⟨"NettleGreen$Formula", "known", "(IIIII)I"⟩, prog_3_method_6_code, 5, some (Jvm.ClassFile.FieldType.int))
def mX1_joined : pm_T := (⟨"NettleGreen$Formula", "joined", "(III)I"⟩, prog_3_method_7_code, 3, some (Jvm.ClassFile.FieldType.int))
def mX2_init : pm_T := (⟨"NettleGreen$Hamlet", "<init>", "()V"⟩, prog_4_method_1_code, 1, none)
def mX2_clear : pm_T := (⟨"NettleGreen$Hamlet", "clear", "()V"⟩, prog_4_method_2_code, 1, none)
def mX2_allPeople : pm_T := (⟨"NettleGreen$Hamlet", "allPeople", "()I"⟩, prog_4_method_3_code, 1, some (Jvm.ClassFile.FieldType.int))
def mX2_liesAbed : pm_T := (⟨"NettleGreen$Hamlet", "liesAbed", "(LNettleGreen$State;I)Z"⟩, prog_4_method_4_code, 3, some (Jvm.ClassFile.FieldType.boolean))
def mX2_abedBits : pm_T := (⟨"NettleGreen$Hamlet", "abedBits", "(LNettleGreen$State;)I"⟩, prog_4_method_5_code, 4, some (Jvm.ClassFile.FieldType.int))
def mX2_allLumps : pm_T := (⟨"NettleGreen$Hamlet", "allLumps", "(LNettleGreen$State;)I"⟩, prog_4_method_6_code, 4, some (Jvm.ClassFile.FieldType.int))
def mX2_allFirm : pm_T := (⟨"NettleGreen$Hamlet", "allFirm", "(LNettleGreen$State;)I"⟩, prog_4_method_7_code, 4, some (Jvm.ClassFile.FieldType.int))
def mX2_takesPlace : pm_T := (⟨"NettleGreen$Hamlet", "takesPlace", "(LNettleGreen$State;I)Z"⟩, prog_4_method_8_code, 3, some (Jvm.ClassFile.FieldType.boolean))
def mX2_coolOne : pm_T := (⟨"NettleGreen$Hamlet", "coolOne", "(LNettleGreen$State;II)V"⟩, prog_4_method_9_code, 4, none)
def mX2_passDay : pm_T := (⟨"NettleGreen$Hamlet", "passDay", "(LNettleGreen$State;[IZ)I"⟩, prog_4_method_10_code, 7, some (Jvm.ClassFile.FieldType.int))
def mX2_meet : pm_T := (⟨"NettleGreen$Hamlet", "meet", "(LNettleGreen$State;II)V"⟩, prog_4_method_11_code, 8, none)
def mX2_flare : pm_T := (⟨"NettleGreen$Hamlet", "flare", "(LNettleGreen$State;)V"⟩, prog_4_method_12_code, 3, none)
def mX3_init : pm_T := (⟨"NettleGreen$Ledger", "<init>", "()V"⟩, prog_5_method_1_code, 1, none)
def mX3_restart : pm_T := (⟨"NettleGreen$Ledger", "restart", "(LNettleGreen$State;)V"⟩, prog_5_method_2_code, 2, none)
def mX3_keepAct : pm_T := (⟨"NettleGreen$Ledger", "keepAct", "(LNettleGreen$State;)V"⟩, prog_5_method_3_code, 2, none)
def mX3_stepBack : pm_T := (⟨"NettleGreen$Ledger", "stepBack", "(LNettleGreen$State;)Z"⟩, prog_5_method_4_code, 2, some (Jvm.ClassFile.FieldType.boolean))
def mX3_stepOn : pm_T := (⟨"NettleGreen$Ledger", "stepOn", "(LNettleGreen$State;)Z"⟩, prog_5_method_5_code, 2, some (Jvm.ClassFile.FieldType.boolean))
def mX3_undoable : pm_T := (⟨"NettleGreen$Ledger", "undoable", "()I"⟩, prog_5_method_6_code, 1, some (Jvm.ClassFile.FieldType.int))
def mX3_redoable : pm_T := (⟨"NettleGreen$Ledger", "redoable", "()I"⟩, prog_5_method_7_code, 1, some (Jvm.ClassFile.FieldType.int))
def mX4_init : pm_T := (⟨"NettleGreen$Outlook", "<init>", "()V"⟩, prog_6_method_1_code, 1, none)
def mX4_lumpsBehind : pm_T := (⟨"NettleGreen$Outlook", "lumpsBehind", "(LNettleGreen$Hamlet;LNettleGreen$State;IIZ)I"⟩, prog_6_method_2_code, 7, some (Jvm.ClassFile.FieldType.int))
def mX4_firmBehind : pm_T := (⟨"NettleGreen$Outlook", "firmBehind", "(LNettleGreen$Hamlet;LNettleGreen$State;II)I"⟩, prog_6_method_3_code, 5, some (Jvm.ClassFile.FieldType.int))
def mX4_hurtBehind : pm_T := (⟨"NettleGreen$Outlook", "hurtBehind", "(LNettleGreen$Hamlet;LNettleGreen$State;I)I"⟩, prog_6_method_4_code, 4, some (Jvm.ClassFile.FieldType.int))
def mX4_daysTillAbed : pm_T := (⟨"NettleGreen$Outlook", "daysTillAbed", "(LNettleGreen$Hamlet;LNettleGreen$State;II)I"⟩, prog_6_method_5_code, 5, some (Jvm.ClassFile.FieldType.int))
def mX4_leastToForbid : pm_T := (⟨"NettleGreen$Outlook", "leastToForbid", "(LNettleGreen$Hamlet;LNettleGreen$State;I)I"⟩, prog_6_method_6_code, 6, some (Jvm.ClassFile.FieldType.int))
def mX4_bestOrder : pm_T := (⟨"NettleGreen$Outlook", "bestOrder", "(LNettleGreen$Hamlet;LNettleGreen$State;II[I)I"⟩, prog_6_method_7_code, 12, some (Jvm.ClassFile.FieldType.int))
def mX4_leastGrip : pm_T := (⟨"NettleGreen$Outlook", "leastGrip", "(LNettleGreen$Hamlet;LNettleGreen$State;II)I"⟩, prog_6_method_8_code, 6, some (Jvm.ClassFile.FieldType.int))
def mX4_choosePupil : pm_T := (⟨"NettleGreen$Outlook", "choosePupil", "(LNettleGreen$Hamlet;LNettleGreen$State;I)V"⟩, prog_6_method_9_code, 5, none)
def mX4_chooseScourge : pm_T := (⟨"NettleGreen$Outlook", "chooseScourge", "(LNettleGreen$Hamlet;LNettleGreen$State;I)V"⟩, prog_6_method_10_code, 6, none)
def mX4_chooseRelief : pm_T := (⟨"NettleGreen$Outlook", "chooseRelief", "(LNettleGreen$Hamlet;LNettleGreen$State;II)V"⟩, prog_6_method_11_code, 6, none)
def mX4_hurtIfAllAre : pm_T := (⟨"NettleGreen$Outlook", "hurtIfAllAre", "(LNettleGreen$Hamlet;LNettleGreen$State;II)I"⟩, prog_6_method_12_code, 5, some (Jvm.ClassFile.FieldType.int))
def mX4_daysTillMeeting : pm_T := (⟨"NettleGreen$Outlook", "daysTillMeeting", "(LNettleGreen$Hamlet;LNettleGreen$State;II)I"⟩, prog_6_method_13_code, 7, some (Jvm.ClassFile.FieldType.int))
def mX4_daysTillSettled : pm_T := (⟨"NettleGreen$Outlook", "daysTillSettled", "(LNettleGreen$Hamlet;LNettleGreen$State;I)I"⟩, prog_6_method_14_code, 8, some (Jvm.ClassFile.FieldType.int))
def mX4_isRest : pm_T := (⟨"NettleGreen$Outlook", "isRest", "(LNettleGreen$Hamlet;LNettleGreen$State;III)Z"⟩, prog_6_method_15_code, 8, some (Jvm.ClassFile.FieldType.boolean))
def mX4_worth : pm_T := (⟨"NettleGreen$Outlook", "worth", "(LNettleGreen$Hamlet;LNettleGreen$State;IIII)I"⟩, prog_6_method_16_code, 8, some (Jvm.ClassFile.FieldType.int))
def mX4_goOn : pm_T := (⟨"NettleGreen$Outlook", "goOn", "(LNettleGreen$Hamlet;[II)I"⟩, prog_6_method_17_code, 5, some (Jvm.ClassFile.FieldType.int))
def mX4_goOnTillAbed : pm_T := (⟨"NettleGreen$Outlook", "goOnTillAbed", "(LNettleGreen$Hamlet;II)I"⟩, prog_6_method_18_code, 5, some (Jvm.ClassFile.FieldType.int))
def mX4_weigh : pm_T := (⟨"NettleGreen$Outlook", "weigh", "(II)V"⟩, prog_6_method_19_code, 3, none)
def mX4_sortFromLeast : pm_T := (⟨"NettleGreen$Outlook", "sortFromLeast", "(II)V"⟩, prog_6_method_20_code, 5, none)
def mX4_turnToNextOrder : pm_T := (⟨"NettleGreen$Outlook", "turnToNextOrder", "(II)Z"⟩, prog_6_method_21_code, 7, some (Jvm.ClassFile.FieldType.boolean))
def mX4_swapTried : pm_T := (⟨"NettleGreen$Outlook", "swapTried", "(II)V"⟩, prog_6_method_22_code, 4, none)
def mX5_init : pm_T := (⟨"NettleGreen$Parser", "<init>", "()V"⟩, prog_7_method_1_code, 1, none)
def mX5_read : pm_T := (⟨"NettleGreen$Parser", "read", "([BI)Z"⟩, prog_7_method_2_code, 4, some (Jvm.ClassFile.FieldType.boolean))
def mX5_swapDraft : pm_T := (⟨"NettleGreen$Parser", "swapDraft", "(LNettleGreen$Hamlet;)LNettleGreen$Hamlet;"⟩, prog_7_method_3_code, 3, some ((Jvm.ClassFile.FieldType.object "NettleGreen$Hamlet")))
def mX5_readLine : pm_T := (⟨"NettleGreen$Parser", "readLine", "()Z"⟩, prog_7_method_4_code, 1, some (Jvm.ClassFile.FieldType.boolean))
def mX5_readPerson : pm_T := (⟨"NettleGreen$Parser", "readPerson", "()Z"⟩, prog_7_method_5_code, 2, some (Jvm.ClassFile.FieldType.boolean))
def mX5_readMeeting : pm_T := (⟨"NettleGreen$Parser", "readMeeting", "()Z"⟩, prog_7_method_6_code, 4, some (Jvm.ClassFile.FieldType.boolean))
def mX5_readBrother : pm_T := (⟨"NettleGreen$Parser", "readBrother", "()Z"⟩, prog_7_method_7_code, 2, some (Jvm.ClassFile.FieldType.boolean))
def mX5_readRound : pm_T := (⟨"NettleGreen$Parser", "readRound", "(I)Z"⟩, prog_7_method_8_code, 5, some (Jvm.ClassFile.FieldType.boolean))
def mX5_readFormula : pm_T := (⟨"NettleGreen$Parser", "readFormula", "()Z"⟩, prog_7_method_9_code, 1, some (Jvm.ClassFile.FieldType.boolean))
def mX5_readSetting : pm_T := (⟨"NettleGreen$Parser", "readSetting", "(III)I"⟩, prog_7_method_10_code, 5, some (Jvm.ClassFile.FieldType.int))
def mX5_isFirstTime : pm_T := (⟨"NettleGreen$Parser", "isFirstTime", "(I)Z"⟩, prog_7_method_11_code, 3, some (Jvm.ClassFile.FieldType.boolean))
def mX5_readChain : pm_T := (⟨"NettleGreen$Parser", "readChain", "(II)Z"⟩, prog_7_method_12_code, 6, some (Jvm.ClassFile.FieldType.boolean))
def mX5_readNot : pm_T := (⟨"NettleGreen$Parser", "readNot", "(I)Z"⟩, prog_7_method_13_code, 3, some (Jvm.ClassFile.FieldType.boolean))
def mX5_readUnit : pm_T := (⟨"NettleGreen$Parser", "readUnit", "(I)Z"⟩, prog_7_method_14_code, 4, some (Jvm.ClassFile.FieldType.boolean))
def mX5_unitAt : pm_T := (⟨"NettleGreen$Parser", "unitAt", "()I"⟩, prog_7_method_15_code, 1, some (Jvm.ClassFile.FieldType.int))
def mX5_operatorAt : pm_T := (⟨"NettleGreen$Parser", "operatorAt", "(I)I"⟩, prog_7_method_16_code, 2, some (Jvm.ClassFile.FieldType.int))
def mX5_readNewName : pm_T := (⟨"NettleGreen$Parser", "readNewName", "([JI)Z"⟩, prog_7_method_17_code, 3, some (Jvm.ClassFile.FieldType.boolean))
def mX5_readPersonNotIn : pm_T := (⟨"NettleGreen$Parser", "readPersonNotIn", "(I)I"⟩, prog_7_method_18_code, 3, some (Jvm.ClassFile.FieldType.int))
def mX5_indexOf : pm_T := (⟨"NettleGreen$Parser", "indexOf", "([JI)I"⟩, prog_7_method_19_code, 4, some (Jvm.ClassFile.FieldType.int))
def mX5_readNumberBehind : pm_T := (⟨"NettleGreen$Parser", "readNumberBehind", "(III)I"⟩, prog_7_method_20_code, 5, some (Jvm.ClassFile.FieldType.int))
def mX5_readKeyword : pm_T := (⟨"NettleGreen$Parser", "readKeyword", "(I)Z"⟩, prog_7_method_21_code, 2, some (Jvm.ClassFile.FieldType.boolean))
def mX5_readLineEnd : pm_T := (⟨"NettleGreen$Parser", "readLineEnd", "()Z"⟩, prog_7_method_22_code, 1, some (Jvm.ClassFile.FieldType.boolean))
def mX5_refuse : pm_T := (⟨"NettleGreen$Parser", "refuse", "()Z"⟩, prog_7_method_23_code, 1, some (Jvm.ClassFile.FieldType.boolean))
def mX5_setFault : pm_T := (⟨"NettleGreen$Parser", "setFault", "(I)Z"⟩, prog_7_method_24_code, 2, some (Jvm.ClassFile.FieldType.boolean))
def mX6_init : pm_T := (⟨"NettleGreen$Scanner", "<init>", "()V"⟩, prog_8_method_1_code, 4, none)
def mX6_begin : pm_T := (⟨"NettleGreen$Scanner", "begin", "([BI)V"⟩, prog_8_method_2_code, 3, none)
def mX6_advance : pm_T := (⟨"NettleGreen$Scanner", "advance", "()V"⟩, prog_8_method_3_code, 1, none)
def mX6_isKeyword : pm_T := (⟨"NettleGreen$Scanner", "isKeyword", "(I)Z"⟩, prog_8_method_4_code, 2, some (Jvm.ClassFile.FieldType.boolean))
def mX6_isSign : pm_T := (⟨"NettleGreen$Scanner", "isSign", "(C)Z"⟩, prog_8_method_5_code, 2, some (Jvm.ClassFile.FieldType.boolean))
def mX6_takeWord : pm_T := (⟨"NettleGreen$Scanner", "takeWord", "()V"⟩, prog_8_method_6_code, 2, none)
def mX6_takeNumber : pm_T := (⟨"NettleGreen$Scanner", "takeNumber", "()V"⟩, prog_8_method_7_code, 2, none)
def mX6_takeSignOrEnd : pm_T := (⟨"NettleGreen$Scanner", "takeSignOrEnd", "()V"⟩, prog_8_method_8_code, 1, none)
def mX6_spelledOn : pm_T := (⟨"NettleGreen$Scanner", "spelledOn", "(JI)J"⟩, prog_8_method_9_code, 3, some (Jvm.ClassFile.FieldType.long))
def mX7_init : pm_T := (⟨"NettleGreen$Sightings", "<init>", "()V"⟩, prog_9_method_1_code, 1, none)
def mX7_forget : pm_T := (⟨"NettleGreen$Sightings", "forget", "()V"⟩, prog_9_method_2_code, 1, none)
def mX7_add : pm_T := (⟨"NettleGreen$Sightings", "add", "(IIIZ)I"⟩, prog_9_method_3_code, 5, some (Jvm.ClassFile.FieldType.int))
def mX7_withdraw : pm_T := (⟨"NettleGreen$Sightings", "withdraw", "(I)Z"⟩, prog_9_method_4_code, 2, some (Jvm.ClassFile.FieldType.boolean))
def mX7_passTime : pm_T := (⟨"NettleGreen$Sightings", "passTime", "(I)I"⟩, prog_9_method_5_code, 2, some (Jvm.ClassFile.FieldType.int))
def mX7_fitting : pm_T := (⟨"NettleGreen$Sightings", "fitting", "(LNettleGreen$Hamlet;I)I"⟩, prog_9_method_6_code, 5, some (Jvm.ClassFile.FieldType.int))
def mX7_mostLeft : pm_T := (⟨"NettleGreen$Sightings", "mostLeft", "(III)I"⟩, prog_9_method_7_code, 7, some (Jvm.ClassFile.FieldType.int))
def mX7_agrees : pm_T := (⟨"NettleGreen$Sightings", "agrees", "(II)Z"⟩, prog_9_method_8_code, 4, some (Jvm.ClassFile.FieldType.boolean))
def mX7_countsAt : pm_T := (⟨"NettleGreen$Sightings", "countsAt", "(II)Z"⟩, prog_9_method_9_code, 4, some (Jvm.ClassFile.FieldType.boolean))
def mX7_fillChart : pm_T := (⟨"NettleGreen$Sightings", "fillChart", "(LNettleGreen$Hamlet;)V"⟩, prog_9_method_10_code, 5, none)
def mX7_cell : pm_T := (⟨"NettleGreen$Sightings", "cell", "(III)I"⟩, prog_9_method_11_code, 3, some (Jvm.ClassFile.FieldType.int))
def mX8_init : pm_T := (⟨"NettleGreen$State", "<init>", "()V"⟩, prog_10_method_1_code, 1, none)
def mX8_setAsTold : pm_T := (⟨"NettleGreen$State", "setAsTold", "(LNettleGreen$Hamlet;)V"⟩, prog_10_method_2_code, 2, none)
def mX8_copyFrom : pm_T := (⟨"NettleGreen$State", "copyFrom", "(LNettleGreen$State;)V"⟩, prog_10_method_3_code, 2, none)
def mX8_writeTo : pm_T := (⟨"NettleGreen$State", "writeTo", "([II)V"⟩, prog_10_method_4_code, 4, none)
def mX8_readFrom : pm_T := (⟨"NettleGreen$State", "readFrom", "([II)V"⟩, prog_10_method_5_code, 4, none)
def mX8_isForbidden : pm_T := (⟨"NettleGreen$State", "isForbidden", "(I)Z"⟩, prog_10_method_6_code, 2, some (Jvm.ClassFile.FieldType.boolean))
def mX9_init : pm_T := (⟨"NettleGreen", "<init>", "()V"⟩, prog_1_method_1_code, 1, none)
def mX9_feed : pm_T := (⟨"NettleGreen", "feed", "(IIIII)I"⟩, prog_1_method_2_code, 6, some (Jvm.ClassFile.FieldType.int))
def mX9_end : pm_T := (⟨"NettleGreen", "end", "(I)I"⟩, prog_1_method_3_code, 2, some (Jvm.ClassFile.FieldType.int))
def mX9_hamlet : pm_T := (⟨"NettleGreen", "hamlet", "()I"⟩, prog_1_method_4_code, 2, some (Jvm.ClassFile.FieldType.int))
def mX9_fault : pm_T := (⟨"NettleGreen", "fault", "(I)I"⟩, prog_1_method_5_code, 2, some (Jvm.ClassFile.FieldType.int))
def mX9_person : pm_T := (⟨"NettleGreen", "person", "(II)I"⟩, prog_1_method_6_code, 3, some (Jvm.ClassFile.FieldType.int))
def mX9_meeting : pm_T := (⟨"NettleGreen", "meeting", "(II)I"⟩, prog_1_method_7_code, 3, some (Jvm.ClassFile.FieldType.int))
def mX9_brother : pm_T := (⟨"NettleGreen", "brother", "(II)I"⟩, prog_1_method_8_code, 3, some (Jvm.ClassFile.FieldType.int))
def mX9_round : pm_T := (⟨"NettleGreen", "round", "(II)I"⟩, prog_1_method_9_code, 3, some (Jvm.ClassFile.FieldType.int))
def mX9_touch : pm_T := (⟨"NettleGreen", "touch", "(II)I"⟩, prog_1_method_10_code, 5, some (Jvm.ClassFile.FieldType.int))
def mX9_abed : pm_T := (⟨"NettleGreen", "abed", "()I"⟩, prog_1_method_11_code, 1, some (Jvm.ClassFile.FieldType.int))
def mX9_day : pm_T := (⟨"NettleGreen", "day", "()I"⟩, prog_1_method_12_code, 2, some (Jvm.ClassFile.FieldType.int))
def mX9_lesson : pm_T := (⟨"NettleGreen", "lesson", "(I)I"⟩, prog_1_method_13_code, 2, some (Jvm.ClassFile.FieldType.int))
def mX9_forbid : pm_T := (⟨"NettleGreen", "forbid", "(I)I"⟩, prog_1_method_14_code, 2, some (Jvm.ClassFile.FieldType.int))
def mX9_allow : pm_T := (⟨"NettleGreen", "allow", "(I)I"⟩, prog_1_method_15_code, 2, some (Jvm.ClassFile.FieldType.int))
def mX9_call : pm_T := (⟨"NettleGreen", "call", "(II)I"⟩, prog_1_method_16_code, 3, some (Jvm.ClassFile.FieldType.int))
def mX9_undo : pm_T := (⟨"NettleGreen", "undo", "()Z"⟩, prog_1_method_17_code, 1, some (Jvm.ClassFile.FieldType.boolean))
def mX9_redo : pm_T := (⟨"NettleGreen", "redo", "()Z"⟩, prog_1_method_18_code, 1, some (Jvm.ClassFile.FieldType.boolean))
def mX9_will : pm_T := (⟨"NettleGreen", "will", "(III)I"⟩, prog_1_method_19_code, 4, some (Jvm.ClassFile.FieldType.int))
def mX9_firm : pm_T := (⟨"NettleGreen", "firm", "(II)I"⟩, prog_1_method_20_code, 3, some (Jvm.ClassFile.FieldType.int))
def mX9_hurt : pm_T := (⟨"NettleGreen", "hurt", "(I)I"⟩, prog_1_method_21_code, 2, some (Jvm.ClassFile.FieldType.int))
def mX9_felled : pm_T := (⟨"NettleGreen", "felled", "(I)I"⟩, prog_1_method_22_code, 2, some (Jvm.ClassFile.FieldType.int))
def mX9_peace : pm_T := (⟨"NettleGreen", "peace", "(II)I"⟩, prog_1_method_23_code, 4, some (Jvm.ClassFile.FieldType.int))
def mX9_rounds : pm_T := (⟨"NettleGreen", "rounds", "(II)I"⟩, prog_1_method_24_code, 4, some (Jvm.ClassFile.FieldType.int))
def mX9_grip : pm_T := (⟨"NettleGreen", "grip", "(II)I"⟩, prog_1_method_25_code, 3, some (Jvm.ClassFile.FieldType.int))
def mX9_pupil : pm_T := (⟨"NettleGreen", "pupil", "(II)I"⟩, prog_1_method_26_code, 3, some (Jvm.ClassFile.FieldType.int))
def mX9_evenings : pm_T := (⟨"NettleGreen", "evenings", "()I"⟩, prog_1_method_27_code, 2, some (Jvm.ClassFile.FieldType.int))
def mX9_rumour : pm_T := (⟨"NettleGreen", "rumour", "(II)I"⟩, prog_1_method_28_code, 3, some (Jvm.ClassFile.FieldType.int))
def mX9_manners : pm_T := (⟨"NettleGreen", "manners", "()I"⟩, prog_1_method_29_code, 1, some (Jvm.ClassFile.FieldType.int))
def mX9_duel : pm_T := (⟨"NettleGreen", "duel", "(I)I"⟩, prog_1_method_30_code, 4, some (Jvm.ClassFile.FieldType.int))
def mX9_scourge : pm_T := (⟨"NettleGreen", "scourge", "(I)I"⟩, prog_1_method_31_code, 2, some (Jvm.ClassFile.FieldType.int))
def mX9_relief : pm_T := (⟨"NettleGreen", "relief", "(II)I"⟩, prog_1_method_32_code, 3, some (Jvm.ClassFile.FieldType.int))
def mX9_sorest : pm_T := (⟨"NettleGreen", "sorest", "()I"⟩, prog_1_method_33_code, 1, some (Jvm.ClassFile.FieldType.int))
def mX9_firmest : pm_T := (⟨"NettleGreen", "firmest", "()I"⟩, prog_1_method_34_code, 1, some (Jvm.ClassFile.FieldType.int))
def mX9_due : pm_T := (⟨"NettleGreen", "due", "()I"⟩, prog_1_method_35_code, 3, some (Jvm.ClassFile.FieldType.int))
def mX9_friends : pm_T := (⟨"NettleGreen", "friends", "(I)I"⟩, prog_1_method_36_code, 2, some (Jvm.ClassFile.FieldType.int))
def mX9_uncared : pm_T := (⟨"NettleGreen", "uncared", "()I"⟩, prog_1_method_37_code, 4, some (Jvm.ClassFile.FieldType.int))
def mX9_law : pm_T := (⟨"NettleGreen", "law", "(I)I"⟩, prog_1_method_38_code, 2, some (Jvm.ClassFile.FieldType.int))
def mX9_next : pm_T := (⟨"NettleGreen", "next", "(I)I"⟩, prog_1_method_39_code, 2, some (Jvm.ClassFile.FieldType.int))
def mX9_odds : pm_T := (⟨"NettleGreen", "odds", "(II)I"⟩, prog_1_method_40_code, 8, some (Jvm.ClassFile.FieldType.int))
def mX9_lies : pm_T := (⟨"NettleGreen", "lies", "(I)I"⟩, prog_1_method_41_code, 2, some (Jvm.ClassFile.FieldType.int))
def mX9_seen : pm_T := (⟨"NettleGreen", "seen", "(IIIZ)I"⟩, prog_1_method_42_code, 5, some (Jvm.ClassFile.FieldType.int))
def mX9_untell : pm_T := (⟨"NettleGreen", "untell", "(I)Z"⟩, prog_1_method_43_code, 2, some (Jvm.ClassFile.FieldType.boolean))
def mX9_later : pm_T := (⟨"NettleGreen", "later", "(I)I"⟩, prog_1_method_44_code, 2, some (Jvm.ClassFile.FieldType.int))
def mX9_fits : pm_T := (⟨"NettleGreen", "fits", "(I)I"⟩, prog_1_method_45_code, 2, some (Jvm.ClassFile.FieldType.int))
def mX9_sure : pm_T := (⟨"NettleGreen", "sure", "(II)I"⟩, prog_1_method_46_code, 7, some (Jvm.ClassFile.FieldType.int))
def mX9_ask : pm_T := (⟨"NettleGreen", "ask", "(III)I"⟩, prog_1_method_47_code, 9, some (Jvm.ClassFile.FieldType.int))
def mX9_image : pm_T := (⟨"NettleGreen", "image", "(I)I"⟩, prog_1_method_48_code, 2, some (Jvm.ClassFile.FieldType.int))
def mX9_back : pm_T := (⟨"NettleGreen", "back", "(I)I"⟩, prog_1_method_49_code, 2, some (Jvm.ClassFile.FieldType.int))
def mX9_about : pm_T := (⟨"NettleGreen", "about", "(I)I"⟩, prog_1_method_50_code, 2, some (Jvm.ClassFile.FieldType.int))
def mX9_isPerson : pm_T := (⟨"NettleGreen", "isPerson", "(I)Z"⟩, prog_1_method_51_code, 2, some (Jvm.ClassFile.FieldType.boolean))
def mX9_isMeeting : pm_T := (⟨"NettleGreen", "isMeeting", "(I)Z"⟩, prog_1_method_52_code, 2, some (Jvm.ClassFile.FieldType.boolean))
def mX9_isBrother : pm_T := (⟨"NettleGreen", "isBrother", "(I)Z"⟩, prog_1_method_53_code, 2, some (Jvm.ClassFile.FieldType.boolean))
def mX9_isBox : pm_T := (⟨"NettleGreen", "isBox", "(I)Z"⟩, prog_1_method_54_code, 1, some (Jvm.ClassFile.FieldType.boolean))
def mX9_isZeroOrOne : pm_T := (⟨"NettleGreen", "isZeroOrOne", "(I)Z"⟩, prog_1_method_55_code, 1, some (Jvm.ClassFile.FieldType.boolean))
def mX9_isWithin : pm_T := (⟨"NettleGreen", "isWithin", "(II)Z"⟩, prog_1_method_56_code, 2, some (Jvm.ClassFile.FieldType.boolean))
def mX9_putFour : pm_T := (⟨"NettleGreen", "putFour", "(I)V"⟩, prog_1_method_57_code, 3, none)
def mX9_turnForbidden : pm_T := (⟨"NettleGreen", "turnForbidden", "(I)I"⟩, prog_1_method_58_code, 2, some (Jvm.ClassFile.FieldType.int))
def mX9_chosen : pm_T := (⟨"NettleGreen", "chosen", "(I)I"⟩, prog_1_method_59_code, 2, some (Jvm.ClassFile.FieldType.int))
def mX9_firstGreatest : pm_T := (⟨"NettleGreen", "firstGreatest", "([I)I"⟩, prog_1_method_60_code, 5, some (Jvm.ClassFile.FieldType.int))
def mX9_greatestDivisor : pm_T := (⟨"NettleGreen", "greatestDivisor", "(II)I"⟩, prog_1_method_61_code, 6, some (Jvm.ClassFile.FieldType.int))
def mX10_init : pm_T := (⟨"NettleGreenModel", "<init>", "()V"⟩, prog_12_method_1_code, 1, none)
def mX10_feed : pm_T := (⟨"NettleGreenModel", "feed", "(IIIII)I"⟩, prog_12_method_2_code, 6, some (Jvm.ClassFile.FieldType.int))
def mX10_four : pm_T := (⟨"NettleGreenModel", "four", "(I)V"⟩, prog_12_method_3_code, 3, none)
def mX10_end : pm_T := (⟨"NettleGreenModel", "end", "(I)I"⟩, prog_12_method_4_code, 2, some (Jvm.ClassFile.FieldType.int))
def mX10_here : pm_T := (⟨"NettleGreenModel", "here", "(I)I"⟩, prog_12_method_5_code, 2, some (Jvm.ClassFile.FieldType.int))
def mX10_isLetter : pm_T := (⟨"NettleGreenModel", "isLetter", "(I)Z"⟩, prog_12_method_6_code, 1, some (Jvm.ClassFile.FieldType.boolean))
def mX10_isDigit : pm_T := (⟨"NettleGreenModel", "isDigit", "(I)Z"⟩, prog_12_method_7_code, 1, some (Jvm.ClassFile.FieldType.boolean))
def mX10_isSign : pm_T := (⟨"NettleGreenModel", "isSign", "(I)Z"⟩, prog_12_method_8_code, 1, some (Jvm.ClassFile.FieldType.boolean))
def mX10_token : pm_T := (⟨"NettleGreenModel", "token", "()V"⟩, prog_12_method_9_code, 3, none)
def mX10_wrong : pm_T := (⟨"NettleGreenModel", "wrong", "(I)V"⟩, prog_12_method_10_code, 2, none)
def mX10_isWord : pm_T := (⟨"NettleGreenModel", "isWord", "(J)Z"⟩, prog_12_method_11_code, 3, some (Jvm.ClassFile.FieldType.boolean))
def mX10_isOwn : pm_T := (⟨"NettleGreenModel", "isOwn", "()Z"⟩, prog_12_method_12_code, 1, some (Jvm.ClassFile.FieldType.boolean))
def mX10_isName : pm_T := (⟨"NettleGreenModel", "isName", "()Z"⟩, prog_12_method_13_code, 1, some (Jvm.ClassFile.FieldType.boolean))
def mX10_want : pm_T := (⟨"NettleGreenModel", "want", "(J)V"⟩, prog_12_method_14_code, 3, none)
def mX10_toldNumber : pm_T := (⟨"NettleGreenModel", "toldNumber", "(II)I"⟩, prog_12_method_15_code, 4, some (Jvm.ClassFile.FieldType.int))
def mX10_told : pm_T := (⟨"NettleGreenModel", "told", "(JII)I"⟩, prog_12_method_16_code, 5, some (Jvm.ClassFile.FieldType.int))
def mX10_mayTell : pm_T := (⟨"NettleGreenModel", "mayTell", "(JI)I"⟩, prog_12_method_17_code, 4, some (Jvm.ClassFile.FieldType.int))
def mX10_find : pm_T := (⟨"NettleGreenModel", "find", "(II)I"⟩, prog_12_method_18_code, 5, some (Jvm.ClassFile.FieldType.int))
def mX10_newName : pm_T := (⟨"NettleGreenModel", "newName", "(II)V"⟩, prog_12_method_19_code, 3, none)
def mX10_oldPerson : pm_T := (⟨"NettleGreenModel", "oldPerson", "()I"⟩, prog_12_method_20_code, 1, some (Jvm.ClassFile.FieldType.int))
def mX10_add : pm_T := (⟨"NettleGreenModel", "add", "(II)V"⟩, prog_12_method_21_code, 3, none)
def mX10_tight : pm_T := (⟨"NettleGreenModel", "tight", "(I)I"⟩, prog_12_method_22_code, 1, some (Jvm.ClassFile.FieldType.int))
def mX10_close : pm_T := (⟨"NettleGreenModel", "close", "(I)V"⟩, prog_12_method_23_code, 2, none)
def mX10_hasRelation : pm_T := (⟨"NettleGreenModel", "hasRelation", "()Z"⟩, prog_12_method_24_code, 2, some (Jvm.ClassFile.FieldType.boolean))
def mX10_mayNot : pm_T := (⟨"NettleGreenModel", "mayNot", "()Z"⟩, prog_12_method_25_code, 1, some (Jvm.ClassFile.FieldType.boolean))
def mX10_asked : pm_T := (⟨"NettleGreenModel", "asked", "()I"⟩, prog_12_method_26_code, 1, some (Jvm.ClassFile.FieldType.int))
def mX10_isFull : pm_T := (⟨"NettleGreenModel", "isFull", "()Z"⟩, prog_12_method_27_code, 1, some (Jvm.ClassFile.FieldType.boolean))
def mX10_countUnit : pm_T := (⟨"NettleGreenModel", "countUnit", "()V"⟩, prog_12_method_28_code, 1, none)
def mX10_openUp : pm_T := (⟨"NettleGreenModel", "openUp", "(I)V"⟩, prog_12_method_29_code, 2, none)
def mX10_unit : pm_T := (⟨"NettleGreenModel", "unit", "()V"⟩, prog_12_method_30_code, 3, none)
def mX10_sign : pm_T := (⟨"NettleGreenModel", "sign", "()I"⟩, prog_12_method_31_code, 1, some (Jvm.ClassFile.FieldType.int))
def mX10_hasBracket : pm_T := (⟨"NettleGreenModel", "hasBracket", "()Z"⟩, prog_12_method_32_code, 3, some (Jvm.ClassFile.FieldType.boolean))
def mX10_formula : pm_T := (⟨"NettleGreenModel", "formula", "()V"⟩, prog_12_method_33_code, 3, none)
def mX10_truth : pm_T := (⟨"NettleGreenModel", "truth", "(Z)I"⟩, prog_12_method_34_code, 1, some (Jvm.ClassFile.FieldType.int))
def mX10_done : pm_T := (⟨"NettleGreenModel", "done", "(III)I"⟩, prog_12_method_35_code, 3, some (Jvm.ClassFile.FieldType.int))
def mX10_within : pm_T := (⟨"NettleGreenModel", "within", "(III)I"⟩, prog_12_method_36_code, 3, some (Jvm.ClassFile.FieldType.int))
def mX10_lesser : pm_T := (⟨"NettleGreenModel", "lesser", "(II)I"⟩, prog_12_method_37_code, 2, some (Jvm.ClassFile.FieldType.int))
def mX10_greater : pm_T := (⟨"NettleGreenModel", "greater", "(II)I"⟩, prog_12_method_38_code, 2, some (Jvm.ClassFile.FieldType.int))
def mX10_members : pm_T := (⟨"NettleGreenModel", "members", "(I)I"⟩, prog_12_method_39_code, 3, some (Jvm.ClassFile.FieldType.int))
def mX10_touchOf : pm_T := (⟨"NettleGreenModel", "touchOf", "(III)I"⟩, prog_12_method_40_code, 6, some (Jvm.ClassFile.FieldType.int))
def mX10_readPerson : pm_T := (⟨"NettleGreenModel", "readPerson", "()V"⟩, prog_12_method_41_code, 1, none)
def mX10_readMeeting : pm_T := (⟨"NettleGreenModel", "readMeeting", "()V"⟩, prog_12_method_42_code, 1, none)
def mX10_readOne : pm_T := (⟨"NettleGreenModel", "readOne", "()V"⟩, prog_12_method_43_code, 3, none)
def mX10_readBrother : pm_T := (⟨"NettleGreenModel", "readBrother", "()V"⟩, prog_12_method_44_code, 1, none)
def mX10_readLine : pm_T := (⟨"NettleGreenModel", "readLine", "()V"⟩, prog_12_method_45_code, 1, none)
def mX10_readAll : pm_T := (⟨"NettleGreenModel", "readAll", "()V"⟩, prog_12_method_46_code, 1, none)
def mX10_hamlet : pm_T := (⟨"NettleGreenModel", "hamlet", "()I"⟩, prog_12_method_47_code, 3, some (Jvm.ClassFile.FieldType.int))
def mX10_fault : pm_T := (⟨"NettleGreenModel", "fault", "(I)I"⟩, prog_12_method_48_code, 2, some (Jvm.ClassFile.FieldType.int))
def mX10_isIn : pm_T := (⟨"NettleGreenModel", "isIn", "(III)Z"⟩, prog_12_method_49_code, 3, some (Jvm.ClassFile.FieldType.boolean))
def mX10_isPerson : pm_T := (⟨"NettleGreenModel", "isPerson", "(I)Z"⟩, prog_12_method_50_code, 2, some (Jvm.ClassFile.FieldType.boolean))
def mX10_isMeeting : pm_T := (⟨"NettleGreenModel", "isMeeting", "(I)Z"⟩, prog_12_method_51_code, 2, some (Jvm.ClassFile.FieldType.boolean))
def mX10_isBrother : pm_T := (⟨"NettleGreenModel", "isBrother", "(I)Z"⟩, prog_12_method_52_code, 2, some (Jvm.ClassFile.FieldType.boolean))
def mX10_fill : pm_T := (⟨"NettleGreenModel", "fill", "()V"⟩, prog_12_method_53_code, 2, none)
def mX10_keepAir : pm_T := (⟨"NettleGreenModel", "keepAir", "()V"⟩, prog_12_method_54_code, 2, none)
def mX10_layTold : pm_T := (⟨"NettleGreenModel", "layTold", "()V"⟩, prog_12_method_55_code, 2, none)
def mX10_isAbed : pm_T := (⟨"NettleGreenModel", "isAbed", "(I)Z"⟩, prog_12_method_56_code, 2, some (Jvm.ClassFile.FieldType.boolean))
def mX10_abedOnes : pm_T := (⟨"NettleGreenModel", "abedOnes", "()I"⟩, prog_12_method_57_code, 3, some (Jvm.ClassFile.FieldType.int))
def mX10_isBanned : pm_T := (⟨"NettleGreenModel", "isBanned", "(I)Z"⟩, prog_12_method_58_code, 2, some (Jvm.ClassFile.FieldType.boolean))
def mX10_takesPlace : pm_T := (⟨"NettleGreenModel", "takesPlace", "(I)Z"⟩, prog_12_method_59_code, 2, some (Jvm.ClassFile.FieldType.boolean))
def mX10_swells : pm_T := (⟨"NettleGreenModel", "swells", "(II)V"⟩, prog_12_method_60_code, 3, none)
def mX10_learn : pm_T := (⟨"NettleGreenModel", "learn", "(II)V"⟩, prog_12_method_61_code, 3, none)
def mX10_meets : pm_T := (⟨"NettleGreenModel", "meets", "(I)V"⟩, prog_12_method_62_code, 6, none)
def mX10_soothes : pm_T := (⟨"NettleGreenModel", "soothes", "(II)V"⟩, prog_12_method_63_code, 3, none)
def mX10_flaresUp : pm_T := (⟨"NettleGreenModel", "flaresUp", "()V"⟩, prog_12_method_64_code, 2, none)
def mX10_goDay : pm_T := (⟨"NettleGreenModel", "goDay", "(Z)I"⟩, prog_12_method_65_code, 4, some (Jvm.ClassFile.FieldType.int))
def mX10_person : pm_T := (⟨"NettleGreenModel", "person", "(II)I"⟩, prog_12_method_66_code, 3, some (Jvm.ClassFile.FieldType.int))
def mX10_meeting : pm_T := (⟨"NettleGreenModel", "meeting", "(II)I"⟩, prog_12_method_67_code, 3, some (Jvm.ClassFile.FieldType.int))
def mX10_brother : pm_T := (⟨"NettleGreenModel", "brother", "(II)I"⟩, prog_12_method_68_code, 3, some (Jvm.ClassFile.FieldType.int))
def mX10_round : pm_T := (⟨"NettleGreenModel", "round", "(II)I"⟩, prog_12_method_69_code, 3, some (Jvm.ClassFile.FieldType.int))
def mX10_touch : pm_T := (⟨"NettleGreenModel", "touch", "(II)I"⟩, prog_12_method_70_code, 5, some (Jvm.ClassFile.FieldType.int))
def mX10_abed : pm_T := (⟨"NettleGreenModel", "abed", "()I"⟩, prog_12_method_71_code, 1, some (Jvm.ClassFile.FieldType.int))
def mX10_act : pm_T := (⟨"NettleGreenModel", "act", "()V"⟩, prog_12_method_72_code, 2, none)
def mX10_exchange : pm_T := (⟨"NettleGreenModel", "exchange", "(I)V"⟩, prog_12_method_73_code, 4, none)
def mX10_day : pm_T := (⟨"NettleGreenModel", "day", "()I"⟩, prog_12_method_74_code, 2, some (Jvm.ClassFile.FieldType.int))
def mX10_lesson : pm_T := (⟨"NettleGreenModel", "lesson", "(I)I"⟩, prog_12_method_75_code, 2, some (Jvm.ClassFile.FieldType.int))
def mX10_turnBan : pm_T := (⟨"NettleGreenModel", "turnBan", "(I)I"⟩, prog_12_method_76_code, 2, some (Jvm.ClassFile.FieldType.int))
def mX10_isBannedNow : pm_T := (⟨"NettleGreenModel", "isBannedNow", "(I)Z"⟩, prog_12_method_77_code, 2, some (Jvm.ClassFile.FieldType.boolean))
def mX10_forbid : pm_T := (⟨"NettleGreenModel", "forbid", "(I)I"⟩, prog_12_method_78_code, 2, some (Jvm.ClassFile.FieldType.int))
def mX10_allow : pm_T := (⟨"NettleGreenModel", "allow", "(I)I"⟩, prog_12_method_79_code, 2, some (Jvm.ClassFile.FieldType.int))
def mX10_call : pm_T := (⟨"NettleGreenModel", "call", "(II)I"⟩, prog_12_method_80_code, 3, some (Jvm.ClassFile.FieldType.int))
def mX10_undo : pm_T := (⟨"NettleGreenModel", "undo", "()Z"⟩, prog_12_method_81_code, 1, some (Jvm.ClassFile.FieldType.boolean))
def mX10_redo : pm_T := (⟨"NettleGreenModel", "redo", "()Z"⟩, prog_12_method_82_code, 1, some (Jvm.ClassFile.FieldType.boolean))
def mX10_will : pm_T := (⟨"NettleGreenModel", "will", "(III)I"⟩, prog_12_method_83_code, 5, some (Jvm.ClassFile.FieldType.int))
def mX10_firm : pm_T := (⟨"NettleGreenModel", "firm", "(II)I"⟩, prog_12_method_84_code, 4, some (Jvm.ClassFile.FieldType.int))
def mX10_hurtBehind : pm_T := (⟨"NettleGreenModel", "hurtBehind", "(I)I"⟩, prog_12_method_85_code, 4, some (Jvm.ClassFile.FieldType.int))
def mX10_hurt : pm_T := (⟨"NettleGreenModel", "hurt", "(I)I"⟩, prog_12_method_86_code, 2, some (Jvm.ClassFile.FieldType.int))
def mX10_felled : pm_T := (⟨"NettleGreenModel", "felled", "(I)I"⟩, prog_12_method_87_code, 3, some (Jvm.ClassFile.FieldType.int))
def mX10_isPeace : pm_T := (⟨"NettleGreenModel", "isPeace", "(II)Z"⟩, prog_12_method_88_code, 5, some (Jvm.ClassFile.FieldType.boolean))
def mX10_peace : pm_T := (⟨"NettleGreenModel", "peace", "(II)I"⟩, prog_12_method_89_code, 6, some (Jvm.ClassFile.FieldType.int))
def mX10_nextRow : pm_T := (⟨"NettleGreenModel", "nextRow", "()Z"⟩, prog_12_method_90_code, 5, some (Jvm.ClassFile.FieldType.boolean))
def mX10_swap : pm_T := (⟨"NettleGreenModel", "swap", "(II)V"⟩, prog_12_method_91_code, 4, none)
def mX10_layRow : pm_T := (⟨"NettleGreenModel", "layRow", "(I)V"⟩, prog_12_method_92_code, 5, none)
def mX10_rounds : pm_T := (⟨"NettleGreenModel", "rounds", "(II)I"⟩, prog_12_method_93_code, 8, some (Jvm.ClassFile.FieldType.int))
def mX10_grip : pm_T := (⟨"NettleGreenModel", "grip", "(II)I"⟩, prog_12_method_94_code, 4, some (Jvm.ClassFile.FieldType.int))
def mX10_pupil : pm_T := (⟨"NettleGreenModel", "pupil", "(II)I"⟩, prog_12_method_95_code, 7, some (Jvm.ClassFile.FieldType.int))
def mX10_friendsOf : pm_T := (⟨"NettleGreenModel", "friendsOf", "(I)I"⟩, prog_12_method_96_code, 4, some (Jvm.ClassFile.FieldType.int))
def mX10_friends : pm_T := (⟨"NettleGreenModel", "friends", "(I)I"⟩, prog_12_method_97_code, 2, some (Jvm.ClassFile.FieldType.int))
def mX10_power : pm_T := (⟨"NettleGreenModel", "power", "(II)I"⟩, prog_12_method_98_code, 4, some (Jvm.ClassFile.FieldType.int))
def mX10_layGroups : pm_T := (⟨"NettleGreenModel", "layGroups", "(II)Z"⟩, prog_12_method_99_code, 6, some (Jvm.ClassFile.FieldType.boolean))
def mX10_findGroups : pm_T := (⟨"NettleGreenModel", "findGroups", "(I)Z"⟩, prog_12_method_100_code, 3, some (Jvm.ClassFile.FieldType.boolean))
def mX10_evenings : pm_T := (⟨"NettleGreenModel", "evenings", "()I"⟩, prog_12_method_101_code, 3, some (Jvm.ClassFile.FieldType.int))
def mX10_rumour : pm_T := (⟨"NettleGreenModel", "rumour", "(II)I"⟩, prog_12_method_102_code, 7, some (Jvm.ClassFile.FieldType.int))
def mX10_manners : pm_T := (⟨"NettleGreenModel", "manners", "()I"⟩, prog_12_method_103_code, 4, some (Jvm.ClassFile.FieldType.int))
def mX10_duel : pm_T := (⟨"NettleGreenModel", "duel", "(I)I"⟩, prog_12_method_104_code, 7, some (Jvm.ClassFile.FieldType.int))
def mX10_meetingsOf : pm_T := (⟨"NettleGreenModel", "meetingsOf", "(I)I"⟩, prog_12_method_105_code, 4, some (Jvm.ClassFile.FieldType.int))
def mX10_scourge : pm_T := (⟨"NettleGreenModel", "scourge", "(I)I"⟩, prog_12_method_106_code, 6, some (Jvm.ClassFile.FieldType.int))
def mX10_relief : pm_T := (⟨"NettleGreenModel", "relief", "(II)I"⟩, prog_12_method_107_code, 7, some (Jvm.ClassFile.FieldType.int))
def mX10_mostAt : pm_T := (⟨"NettleGreenModel", "mostAt", "(I)I"⟩, prog_12_method_108_code, 4, some (Jvm.ClassFile.FieldType.int))
def mX10_sorest : pm_T := (⟨"NettleGreenModel", "sorest", "()I"⟩, prog_12_method_109_code, 1, some (Jvm.ClassFile.FieldType.int))
def mX10_firmest : pm_T := (⟨"NettleGreenModel", "firmest", "()I"⟩, prog_12_method_110_code, 1, some (Jvm.ClassFile.FieldType.int))
def mX10_due : pm_T := (⟨"NettleGreenModel", "due", "()I"⟩, prog_12_method_111_code, 3, some (Jvm.ClassFile.FieldType.int))
def mX10_uncared : pm_T := (⟨"NettleGreenModel", "uncared", "()I"⟩, prog_12_method_112_code, 4, some (Jvm.ClassFile.FieldType.int))
def mX10_law : pm_T := (⟨"NettleGreenModel", "law", "(I)I"⟩, prog_12_method_113_code, 3, some (Jvm.ClassFile.FieldType.int))
def mX10_next : pm_T := (⟨"NettleGreenModel", "next", "(I)I"⟩, prog_12_method_114_code, 3, some (Jvm.ClassFile.FieldType.int))
def mX10_divisor : pm_T := (⟨"NettleGreenModel", "divisor", "(II)I"⟩, prog_12_method_115_code, 5, some (Jvm.ClassFile.FieldType.int))
def mX10_odds : pm_T := (⟨"NettleGreenModel", "odds", "(II)I"⟩, prog_12_method_116_code, 6, some (Jvm.ClassFile.FieldType.int))
def mX10_lies : pm_T := (⟨"NettleGreenModel", "lies", "(I)I"⟩, prog_12_method_117_code, 2, some (Jvm.ClassFile.FieldType.int))
def mX10_seen : pm_T := (⟨"NettleGreenModel", "seen", "(IIIZ)I"⟩, prog_12_method_118_code, 5, some (Jvm.ClassFile.FieldType.int))
def mX10_untell : pm_T := (⟨"NettleGreenModel", "untell", "(I)Z"⟩, prog_12_method_119_code, 2, some (Jvm.ClassFile.FieldType.boolean))
def mX10_later : pm_T := (⟨"NettleGreenModel", "later", "(I)I"⟩, prog_12_method_120_code, 2, some (Jvm.ClassFile.FieldType.int))
def mX10_fitsFirm : pm_T := (⟨"NettleGreenModel", "fitsFirm", "(II)Z"⟩, prog_12_method_121_code, 5, some (Jvm.ClassFile.FieldType.boolean))
def mX10_layFits : pm_T := (⟨"NettleGreenModel", "layFits", "(I)I"⟩, prog_12_method_122_code, 6, some (Jvm.ClassFile.FieldType.int))
def mX10_fits : pm_T := (⟨"NettleGreenModel", "fits", "(I)I"⟩, prog_12_method_123_code, 2, some (Jvm.ClassFile.FieldType.int))
def mX10_sure : pm_T := (⟨"NettleGreenModel", "sure", "(II)I"⟩, prog_12_method_124_code, 5, some (Jvm.ClassFile.FieldType.int))
def mX10_leftBy : pm_T := (⟨"NettleGreenModel", "leftBy", "(II)I"⟩, prog_12_method_125_code, 6, some (Jvm.ClassFile.FieldType.int))
def mX10_ask : pm_T := (⟨"NettleGreenModel", "ask", "(III)I"⟩, prog_12_method_126_code, 6, some (Jvm.ClassFile.FieldType.int))
def mX10_isBox : pm_T := (⟨"NettleGreenModel", "isBox", "(I)Z"⟩, prog_12_method_127_code, 1, some (Jvm.ClassFile.FieldType.boolean))
def mX10_image : pm_T := (⟨"NettleGreenModel", "image", "(I)I"⟩, prog_12_method_128_code, 3, some (Jvm.ClassFile.FieldType.int))
def mX10_back : pm_T := (⟨"NettleGreenModel", "back", "(I)I"⟩, prog_12_method_129_code, 3, some (Jvm.ClassFile.FieldType.int))
def mX10_about : pm_T := (⟨"NettleGreenModel", "about", "(I)I"⟩, prog_12_method_130_code, 2, some (Jvm.ClassFile.FieldType.int))
def mJ11_isValidCodePoint_9a6ad : pm_T := (⟨"java/lang/Character", "isValidCodePoint", "(I)Z"⟩, prog_13_method_11_code, 2, some (Jvm.ClassFile.FieldType.boolean))
def mJ11_highSurrogate_5068e : pm_T := (⟨"java/lang/Character", "highSurrogate", "(I)C"⟩, prog_13_method_28_code, 1, some (Jvm.ClassFile.FieldType.char))
def mJ11_lowSurrogate_5068e : pm_T := (⟨"java/lang/Character", "lowSurrogate", "(I)C"⟩, prog_13_method_29_code, 1, some (Jvm.ClassFile.FieldType.char))
def mJ6_bitCount_0f7a4 : pm_T := (⟨"java/lang/Integer", "bitCount", "(I)I"⟩, prog_14_method_49_code, 1, some (Jvm.ClassFile.FieldType.int))
def mJ9_max_7cf53 : pm_T := (⟨"java/lang/Math", "max", "(II)I"⟩, prog_15_method_65_code, 2, some (Jvm.ClassFile.FieldType.int))
def mJ9_min_7cf53 : pm_T := (⟨"java/lang/Math", "min", "(II)I"⟩, prog_15_method_69_code, 2, some (Jvm.ClassFile.FieldType.int))
def mJ0_length_8abf5 : pm_T := (⟨"java/lang/String", "length", "()I"⟩, prog_16_method_54_code, 1, some (Jvm.ClassFile.FieldType.int))
def mJ0_charAt_5068e : pm_T := (⟨"java/lang/String", "charAt", "(I)C"⟩, prog_16_method_56_code, 2, some (Jvm.ClassFile.FieldType.char))
def mJ0_indexOf_0f7a4 : pm_T := (⟨"java/lang/String", "indexOf", "(I)I"⟩, prog_16_method_79_code, 2, some (Jvm.ClassFile.FieldType.int))
def mJ0_indexOf_7cf53 : pm_T := (⟨"java/lang/String", "indexOf", "(II)I"⟩, prog_16_method_80_code, 3, some (Jvm.ClassFile.FieldType.int))
def mJ0_coder_7d493 : pm_T := (⟨"java/lang/String", "coder", "()B"⟩, prog_16_method_152_code, 1, some (Jvm.ClassFile.FieldType.byte))
def mJ0_isLatin1_aae02 : pm_T := (⟨"java/lang/String", "isLatin1", "()Z"⟩, prog_16_method_154_code, 1, some (Jvm.ClassFile.FieldType.boolean))
def mJ0_checkIndex_df160 : pm_T := (⟨"java/lang/String", "checkIndex", "(II)V"⟩, prog_16_method_155_code, 2, none)
def mJ0_checkBoundsBeginEnd_23922 : pm_T := (⟨"java/lang/String", "checkBoundsBeginEnd", "(III)V"⟩, prog_16_method_158_code, 3, none)
def mJ1_charAt_3b067 : pm_T := (⟨"java/lang/StringLatin1", "charAt", "([BI)C"⟩, prog_17_method_2_code, 2, some (Jvm.ClassFile.FieldType.char))
def mJ1_canEncode_9a6ad : pm_T := (⟨"java/lang/StringLatin1", "canEncode", "(I)Z"⟩, prog_17_method_4_code, 1, some (Jvm.ClassFile.FieldType.boolean))
def mJ1_indexOf_4cfef : pm_T := (⟨"java/lang/StringLatin1", "indexOf", "([BIII)I"⟩, prog_17_method_22_code, 4, some (Jvm.ClassFile.FieldType.int))
def mJ1_indexOfChar_4cfef : pm_T := (⟨"java/lang/StringLatin1", "indexOfChar", "([BIII)I"⟩, prog_17_method_23_code, 6, some (Jvm.ClassFile.FieldType.int))
def mJ2_getChar_3b067 : pm_T := (⟨"java/lang/StringUTF16", "getChar", "([BI)C"⟩, prog_18_method_5_code, 2, some (Jvm.ClassFile.FieldType.char))
def mJ2_length_9d52b : pm_T := (⟨"java/lang/StringUTF16", "length", "([B)I"⟩, prog_18_method_6_code, 1, some (Jvm.ClassFile.FieldType.int))
def mJ2_indexOf_4cfef : pm_T := (⟨"java/lang/StringUTF16", "indexOf", "([BIII)I"⟩, prog_18_method_40_code, 4, some (Jvm.ClassFile.FieldType.int))
def mJ2_indexOfChar_4cfef : pm_T := (⟨"java/lang/StringUTF16", "indexOfChar", "([BIII)I"⟩, prog_18_method_47_code, 4, some (Jvm.ClassFile.FieldType.int))
def mJ2_indexOfCharUnsafe_4cfef : pm_T := (⟨"java/lang/StringUTF16", "indexOfCharUnsafe", "([BIII)I"⟩, prog_18_method_48_code, 5, some (Jvm.ClassFile.FieldType.int))
def mJ2_indexOfSupplementary_4cfef : pm_T := (⟨"java/lang/StringUTF16", "indexOfSupplementary", "([BIII)I"⟩, prog_18_method_49_code, 7, some (Jvm.ClassFile.FieldType.int))
def mJ2_charAt_3b067 : pm_T := (⟨"java/lang/StringUTF16", "charAt", "([BI)C"⟩, prog_18_method_83_code, 2, some (Jvm.ClassFile.FieldType.char))
def mJ2_checkIndex_2214a : pm_T := (⟨"java/lang/StringUTF16", "checkIndex", "(I[B)V"⟩, prog_18_method_91_code, 2, none)
def mJ2_checkBoundsBeginEnd_d044e : pm_T := (⟨"java/lang/StringUTF16", "checkBoundsBeginEnd", "(II[B)V"⟩, prog_18_method_93_code, 3, none)
def mJ7_fill_53178 : pm_T := (⟨"java/util/Arrays", "fill", "([II)V"⟩, prog_20_method_103_code, 4, none)
def mJ3_checkIndex_8e157 : pm_T := (⟨"jdk/internal/util/Preconditions", "checkIndex", "(IILjava/util/function/BiFunction;)I"⟩, prog_21_method_11_code, 3, some (Jvm.ClassFile.FieldType.int))
def mJ3_checkFromToIndex_8c36e : pm_T := (⟨"jdk/internal/util/Preconditions", "checkFromToIndex", "(IIILjava/util/function/BiFunction;)I"⟩, prog_21_method_12_code, 4, some (Jvm.ClassFile.FieldType.int))
def mL_law : pm_T := (x, code, 4, some .boolean)
