/-! names of the classes, their fields, the shape of the world -/
def GW : List Cond := lw_tbl.filter goodWord
theorem mGW {w : Cond} (h : w ∈ lw_tbl) (g : goodWord w = true) : w ∈ GW := List.mem_filter.mpr ⟨h, g⟩
theorem gGW : GoodIn GW GW := fun w h => ⟨h, good_of_word (List.mem_filter.mp h).2⟩
theorem gGWc {w : Cond} (h : w ∈ GW) : GoodIn GW (w :: GW) := fun v hv => by
  rcases List.mem_cons.mp hv with e | e
  · subst e; exact gGW v h
  · exact gGW v e
def cN0 : String := "RiverTuesdays$Bed"
def cT0 : u_T := fun k => match k with
  | 0 => ("RiverTuesdays$Bed", "kinds", "[I", true)
  | 1 => ("RiverTuesdays$Bed", "ground", "[I", true)
  | 2 => ("RiverTuesdays$Bed", "height", "[I", true)
  | 3 => ("RiverTuesdays$Bed", "cellar", "[I", true)
  | 4 => ("RiverTuesdays$Bed", "shutBit", "[I", true)
  | 5 => ("RiverTuesdays$Bed", "houses", "I", false)
  | 6 => ("RiverTuesdays$Bed", "inflow", "I", false)
  | _ => ("RiverTuesdays$Bed", "sea", "I", false)
def cY0 : Nat → FieldType := fun k => match k with
  | 0 => .array .int
  | 1 => .array .int
  | 2 => .array .int
  | 3 => .array .int
  | 4 => .array .int
  | 5 => .int
  | 6 => .int
  | _ => .int
theorem cD0 : ∀ a, a < 8 → ∀ b, b < 8 → a ≠ b → (cT0 a).2.1 ≠ (cT0 b).2.1 := by decide +kernel
theorem cYo0 : ∀ k, k < 8 → parseFieldDescriptor (cT0 k).2.2.1 = some (cY0 k) := by decide +kernel
theorem cG0 : ∀ k, k < 8 → goodWord (u_lay cN0 cT0 k) = true := by decide +kernel
theorem cP0 : ∀ k, k < 8 → lw_tbl[([141, 143, 145, 147, 149, 151, 153, 155] : List Nat).getD k 0]? = some (u_lay cN0 cT0 k) := by decide +kernel
theorem cW0 : ∀ w ∈ u_ws cN0 cT0 8, w ∈ GW := by
  intro w hw
  obtain ⟨k, hk, rfl⟩ := List.mem_map.mp hw
  have hk := List.mem_range.mp hk
  exact mGW (List.mem_of_getElem? (cP0 k hk)) (cG0 k hk)
def cN1 : String := "RiverTuesdays$Fits"
def cT1 : u_T := fun k => match k with
  | 0 => ("RiverTuesdays$Fits", "plans", "[I", true)
  | 1 => ("RiverTuesdays$Fits", "markOf", "[I", true)
  | 2 => ("RiverTuesdays$Fits", "tally", "[I", true)
  | _ => ("RiverTuesdays$Fits", "size", "I", false)
def cY1 : Nat → FieldType := fun k => match k with
  | 0 => .array .int
  | 1 => .array .int
  | 2 => .array .int
  | _ => .int
theorem cD1 : ∀ a, a < 4 → ∀ b, b < 4 → a ≠ b → (cT1 a).2.1 ≠ (cT1 b).2.1 := by decide +kernel
theorem cYo1 : ∀ k, k < 4 → parseFieldDescriptor (cT1 k).2.2.1 = some (cY1 k) := by decide +kernel
theorem cG1 : ∀ k, k < 4 → goodWord (u_lay cN1 cT1 k) = true := by decide +kernel
theorem cP1 : ∀ k, k < 4 → lw_tbl[([267, 269, 271, 273] : List Nat).getD k 0]? = some (u_lay cN1 cT1 k) := by decide +kernel
theorem cW1 : ∀ w ∈ u_ws cN1 cT1 4, w ∈ GW := by
  intro w hw
  obtain ⟨k, hk, rfl⟩ := List.mem_map.mp hw
  have hk := List.mem_range.mp hk
  exact mGW (List.mem_of_getElem? (cP1 k hk)) (cG1 k hk)
def cN2 : String := "RiverTuesdays$Jobs"
def cT2 : u_T := fun k => match k with
  | 0 => ("RiverTuesdays$Jobs", "takes", "[I", true)
  | 1 => ("RiverTuesdays$Jobs", "due", "[I", true)
  | 2 => ("RiverTuesdays$Jobs", "order", "[I", true)
  | 3 => ("RiverTuesdays$Jobs", "bestOrder", "[I", true)
  | _ => ("RiverTuesdays$Jobs", "size", "I", false)
def cY2 : Nat → FieldType := fun k => match k with
  | 0 => .array .int
  | 1 => .array .int
  | 2 => .array .int
  | 3 => .array .int
  | _ => .int
theorem cD2 : ∀ a, a < 5 → ∀ b, b < 5 → a ≠ b → (cT2 a).2.1 ≠ (cT2 b).2.1 := by decide +kernel
theorem cYo2 : ∀ k, k < 5 → parseFieldDescriptor (cT2 k).2.2.1 = some (cY2 k) := by decide +kernel
theorem cG2 : ∀ k, k < 5 → goodWord (u_lay cN2 cT2 k) = true := by decide +kernel
theorem cP2 : ∀ k, k < 5 → lw_tbl[([289, 291, 293, 295, 297] : List Nat).getD k 0]? = some (u_lay cN2 cT2 k) := by decide +kernel
theorem cW2 : ∀ w ∈ u_ws cN2 cT2 5, w ∈ GW := by
  intro w hw
  obtain ⟨k, hk, rfl⟩ := List.mem_map.mp hw
  have hk := List.mem_range.mp hk
  exact mGW (List.mem_of_getElem? (cP2 k hk)) (cG2 k hk)
def cN3 : String := "RiverTuesdays$Row"
def cT3 : u_T := fun k => match k with
  | 0 => ("RiverTuesdays$Row", "places", "[I", true)
  | _ => ("RiverTuesdays$Row", "size", "I", false)
def cY3 : Nat → FieldType := fun k => match k with
  | 0 => .array .int
  | _ => .int
theorem cD3 : ∀ a, a < 2 → ∀ b, b < 2 → a ≠ b → (cT3 a).2.1 ≠ (cT3 b).2.1 := by decide +kernel
theorem cYo3 : ∀ k, k < 2 → parseFieldDescriptor (cT3 k).2.2.1 = some (cY3 k) := by decide +kernel
theorem cG3 : ∀ k, k < 2 → goodWord (u_lay cN3 cT3 k) = true := by decide +kernel
theorem cP3 : ∀ k, k < 2 → lw_tbl[([311, 313] : List Nat).getD k 0]? = some (u_lay cN3 cT3 k) := by decide +kernel
theorem cW3 : ∀ w ∈ u_ws cN3 cT3 2, w ∈ GW := by
  intro w hw
  obtain ⟨k, hk, rfl⟩ := List.mem_map.mp hw
  have hk := List.mem_range.mp hk
  exact mGW (List.mem_of_getElem? (cP3 k hk)) (cG3 k hk)
def cN4 : String := "RiverTuesdays$Street"
def cT4 : u_T := fun k => match k with
  | 0 => ("RiverTuesdays$Street", "bed", "LRiverTuesdays$Bed;", true)
  | 1 => ("RiverTuesdays$Street", "now", "LRiverTuesdays$Waters;", true)
  | 2 => ("RiverTuesdays$Street", "past", "[I", true)
  | 3 => ("RiverTuesdays$Street", "openBit", "[I", true)
  | _ => ("RiverTuesdays$Street", "hours", "I", false)
def cY4 : Nat → FieldType := fun k => match k with
  | 0 => .object "RiverTuesdays$Bed"
  | 1 => .object "RiverTuesdays$Waters"
  | 2 => .array .int
  | 3 => .array .int
  | _ => .int
theorem cD4 : ∀ a, a < 5 → ∀ b, b < 5 → a ≠ b → (cT4 a).2.1 ≠ (cT4 b).2.1 := by decide +kernel
theorem cYo4 : ∀ k, k < 5 → parseFieldDescriptor (cT4 k).2.2.1 = some (cY4 k) := by decide +kernel
theorem cG4 : ∀ k, k < 5 → goodWord (u_lay cN4 cT4 k) = true := by decide +kernel
theorem cP4 : ∀ k, k < 5 → lw_tbl[([206, 208, 210, 212, 214] : List Nat).getD k 0]? = some (u_lay cN4 cT4 k) := by decide +kernel
theorem cW4 : ∀ w ∈ u_ws cN4 cT4 5, w ∈ GW := by
  intro w hw
  obtain ⟨k, hk, rfl⟩ := List.mem_map.mp hw
  have hk := List.mem_range.mp hk
  exact mGW (List.mem_of_getElem? (cP4 k hk)) (cG4 k hk)
def cN5 : String := "RiverTuesdays$Text"
def cT5 : u_T := fun k => match k with
  | 0 => ("RiverTuesdays$Text", "signs", "[B", true)
  | _ => ("RiverTuesdays$Text", "size", "I", false)
def cY5 : Nat → FieldType := fun k => match k with
  | 0 => .array .byte
  | _ => .int
theorem cD5 : ∀ a, a < 2 → ∀ b, b < 2 → a ≠ b → (cT5 a).2.1 ≠ (cT5 b).2.1 := by decide +kernel
theorem cYo5 : ∀ k, k < 2 → parseFieldDescriptor (cT5 k).2.2.1 = some (cY5 k) := by decide +kernel
theorem cG5 : ∀ k, k < 2 → goodWord (u_lay cN5 cT5 k) = true := by decide +kernel
theorem cP5 : ∀ k, k < 2 → lw_tbl[([327, 329] : List Nat).getD k 0]? = some (u_lay cN5 cT5 k) := by decide +kernel
theorem cW5 : ∀ w ∈ u_ws cN5 cT5 2, w ∈ GW := by
  intro w hw
  obtain ⟨k, hk, rfl⟩ := List.mem_map.mp hw
  have hk := List.mem_range.mp hk
  exact mGW (List.mem_of_getElem? (cP5 k hk)) (cG5 k hk)
def cN6 : String := "RiverTuesdays$Tuesday"
def cT6 : u_T := fun k => match k with
  | 0 => ("RiverTuesdays$Tuesday", "behind", "[LRiverTuesdays$Waters;", true)
  | 1 => ("RiverTuesdays$Tuesday", "harmSoFar", "[I", true)
  | 2 => ("RiverTuesdays$Tuesday", "wetBits", "[I", true)
  | 3 => ("RiverTuesdays$Tuesday", "markAt", "[[I", true)
  | 4 => ("RiverTuesdays$Tuesday", "latestPlan", "I", false)
  | _ => ("RiverTuesdays$Tuesday", "isLed", "Z", false)
def cY6 : Nat → FieldType := fun k => match k with
  | 0 => .array (.object "RiverTuesdays$Waters")
  | 1 => .array .int
  | 2 => .array .int
  | 3 => .array (.array .int)
  | 4 => .int
  | _ => .boolean
theorem cD6 : ∀ a, a < 6 → ∀ b, b < 6 → a ≠ b → (cT6 a).2.1 ≠ (cT6 b).2.1 := by decide +kernel
theorem cYo6 : ∀ k, k < 6 → parseFieldDescriptor (cT6 k).2.2.1 = some (cY6 k) := by decide +kernel
theorem cG6 : ∀ k, k < 6 → goodWord (u_lay cN6 cT6 k) = true := by decide +kernel
theorem cP6 : ∀ k, k < 6 → lw_tbl[([242, 244, 246, 248, 250, 252] : List Nat).getD k 0]? = some (u_lay cN6 cT6 k) := by decide +kernel
theorem cW6 : ∀ w ∈ u_ws cN6 cT6 6, w ∈ GW := by
  intro w hw
  obtain ⟨k, hk, rfl⟩ := List.mem_map.mp hw
  have hk := List.mem_range.mp hk
  exact mGW (List.mem_of_getElem? (cP6 k hk)) (cG6 k hk)
def cN7 : String := "RiverTuesdays$Waters"
def cT7 : u_T := fun k => match k with
  | 0 => ("RiverTuesdays$Waters", "ahead", "[I", true)
  | 1 => ("RiverTuesdays$Waters", "below", "[I", true)
  | 2 => ("RiverTuesdays$Waters", "flour", "[I", true)
  | 3 => ("RiverTuesdays$Waters", "ran", "[I", true)
  | 4 => ("RiverTuesdays$Waters", "sank", "[I", true)
  | 5 => ("RiverTuesdays$Waters", "in", "I", false)
  | _ => ("RiverTuesdays$Waters", "out", "I", false)
def cY7 : Nat → FieldType := fun k => match k with
  | 0 => .array .int
  | 1 => .array .int
  | 2 => .array .int
  | 3 => .array .int
  | 4 => .array .int
  | 5 => .int
  | _ => .int
theorem cD7 : ∀ a, a < 7 → ∀ b, b < 7 → a ≠ b → (cT7 a).2.1 ≠ (cT7 b).2.1 := by decide +kernel
theorem cYo7 : ∀ k, k < 7 → parseFieldDescriptor (cT7 k).2.2.1 = some (cY7 k) := by decide +kernel
theorem cG7 : ∀ k, k < 7 → goodWord (u_lay cN7 cT7 k) = true := by decide +kernel
theorem cP7 : ∀ k, k < 7 → lw_tbl[([183, 185, 187, 189, 191, 193, 195] : List Nat).getD k 0]? = some (u_lay cN7 cT7 k) := by decide +kernel
theorem cW7 : ∀ w ∈ u_ws cN7 cT7 7, w ∈ GW := by
  intro w hw
  obtain ⟨k, hk, rfl⟩ := List.mem_map.mp hw
  have hk := List.mem_range.mp hk
  exact mGW (List.mem_of_getElem? (cP7 k hk)) (cG7 k hk)
def cN8 : String := "RiverTuesdays"
def cT8 : u_T := fun k => match k with
  | 0 => ("RiverTuesdays", "rows", "[LRiverTuesdays$Row;", true)
  | 1 => ("RiverTuesdays", "texts", "[LRiverTuesdays$Text;", true)
  | 2 => ("RiverTuesdays", "present", "LRiverTuesdays$Street;", true)
  | 3 => ("RiverTuesdays", "kept", "[LRiverTuesdays$Street;", true)
  | 4 => ("RiverTuesdays", "isKept", "[Z", true)
  | 5 => ("RiverTuesdays", "trialBed", "LRiverTuesdays$Bed;", true)
  | 6 => ("RiverTuesdays", "trialWaters", "LRiverTuesdays$Waters;", true)
  | 7 => ("RiverTuesdays", "today", "LRiverTuesdays$Tuesday;", true)
  | 8 => ("RiverTuesdays", "fits", "LRiverTuesdays$Fits;", true)
  | 9 => ("RiverTuesdays", "jobs", "LRiverTuesdays$Jobs;", true)
  | 10 => ("RiverTuesdays", "perHouse", "[I", true)
  | 11 => ("RiverTuesdays", "timesFound", "[I", true)
  | 12 => ("RiverTuesdays", "latestFound", "I", false)
  | _ => ("RiverTuesdays", "told", "I", false)
def cY8 : Nat → FieldType := fun k => match k with
  | 0 => .array (.object "RiverTuesdays$Row")
  | 1 => .array (.object "RiverTuesdays$Text")
  | 2 => .object "RiverTuesdays$Street"
  | 3 => .array (.object "RiverTuesdays$Street")
  | 4 => .array .boolean
  | 5 => .object "RiverTuesdays$Bed"
  | 6 => .object "RiverTuesdays$Waters"
  | 7 => .object "RiverTuesdays$Tuesday"
  | 8 => .object "RiverTuesdays$Fits"
  | 9 => .object "RiverTuesdays$Jobs"
  | 10 => .array .int
  | 11 => .array .int
  | 12 => .int
  | _ => .int
theorem cD8 : ∀ a, a < 14 → ∀ b, b < 14 → a ≠ b → (cT8 a).2.1 ≠ (cT8 b).2.1 := by decide +kernel
theorem cYo8 : ∀ k, k < 14 → parseFieldDescriptor (cT8 k).2.2.1 = some (cY8 k) := by decide +kernel
theorem cG8 : ∀ k, k < 14 → goodWord (u_lay cN8 cT8 k) = true := by decide +kernel
theorem cP8 : ∀ k, k < 14 → lw_tbl[([347, 349, 351, 353, 355, 357, 359, 361, 363, 365, 367, 369, 371, 373] : List Nat).getD k 0]? = some (u_lay cN8 cT8 k) := by decide +kernel
theorem cW8 : ∀ w ∈ u_ws cN8 cT8 14, w ∈ GW := by
  intro w hw
  obtain ⟨k, hk, rfl⟩ := List.mem_map.mp hw
  have hk := List.mem_range.mp hk
  exact mGW (List.mem_of_getElem? (cP8 k hk)) (cG8 k hk)
def cN9 : String := "RiverTuesdaysModel"
def cT9 : u_T := fun k => match k with
  | 0 => ("RiverTuesdaysModel", "latest", "I", false)
  | 1 => ("RiverTuesdaysModel", "came", "[I", true)
  | 2 => ("RiverTuesdaysModel", "asked", "I", false)
  | 3 => ("RiverTuesdaysModel", "sizes", "[I", true)
  | 4 => ("RiverTuesdaysModel", "rows", "[I", true)
  | 5 => ("RiverTuesdaysModel", "copied", "[I", true)
  | 6 => ("RiverTuesdaysModel", "textSizes", "[I", true)
  | 7 => ("RiverTuesdaysModel", "bytes", "[B", true)
  | 8 => ("RiverTuesdaysModel", "flowNow", "I", false)
  | 9 => ("RiverTuesdaysModel", "sea", "I", false)
  | 10 => ("RiverTuesdaysModel", "n", "I", false)
  | 11 => ("RiverTuesdaysModel", "kinds", "[I", true)
  | 12 => ("RiverTuesdaysModel", "floors", "[I", true)
  | 13 => ("RiverTuesdaysModel", "sills", "[I", true)
  | 14 => ("RiverTuesdaysModel", "rooms", "[I", true)
  | 15 => ("RiverTuesdaysModel", "shutNow", "[I", true)
  | 16 => ("RiverTuesdaysModel", "readAt", "I", false)
  | 17 => ("RiverTuesdaysModel", "readNumber", "I", false)
  | 18 => ("RiverTuesdaysModel", "readFlow", "I", false)
  | 19 => ("RiverTuesdaysModel", "readSea", "I", false)
  | 20 => ("RiverTuesdaysModel", "readMany", "I", false)
  | 21 => ("RiverTuesdaysModel", "readHouses", "[I", true)
  | 22 => ("RiverTuesdaysModel", "streets", "[I", true)
  | 23 => ("RiverTuesdaysModel", "ran", "[I", true)
  | 24 => ("RiverTuesdaysModel", "got", "[I", true)
  | 25 => ("RiverTuesdaysModel", "ranOut", "I", false)
  | 26 => ("RiverTuesdaysModel", "hourMany", "I", false)
  | 27 => ("RiverTuesdaysModel", "hours", "[I", true)
  | 28 => ("RiverTuesdaysModel", "keptHours", "[I", true)
  | 29 => ("RiverTuesdaysModel", "keptNow", "[I", true)
  | 30 => ("RiverTuesdaysModel", "keptSills", "[I", true)
  | 31 => ("RiverTuesdaysModel", "keptShut", "[I", true)
  | 32 => ("RiverTuesdaysModel", "keptFlow", "[I", true)
  | 33 => ("RiverTuesdaysModel", "keptLog", "[I", true)
  | 34 => ("RiverTuesdaysModel", "isKept", "[Z", true)
  | 35 => ("RiverTuesdaysModel", "harmOf", "I", false)
  | 36 => ("RiverTuesdaysModel", "groundOf", "I", false)
  | 37 => ("RiverTuesdaysModel", "wetSet", "I", false)
  | 38 => ("RiverTuesdaysModel", "outOf", "I", false)
  | 39 => ("RiverTuesdaysModel", "standsOf", "I", false)
  | 40 => ("RiverTuesdaysModel", "wetHour", "[I", true)
  | 41 => ("RiverTuesdaysModel", "cutSets", "[I", true)
  | 42 => ("RiverTuesdaysModel", "marksOf", "[I", true)
  | 43 => ("RiverTuesdaysModel", "fitting", "[Z", true)
  | 44 => ("RiverTuesdaysModel", "fitMany", "I", false)
  | 45 => ("RiverTuesdaysModel", "fitFirst", "I", false)
  | 46 => ("RiverTuesdaysModel", "fitAll", "I", false)
  | 47 => ("RiverTuesdaysModel", "fitNone", "I", false)
  | 48 => ("RiverTuesdaysModel", "byMark", "[I", true)
  | 49 => ("RiverTuesdaysModel", "raised", "[I", true)
  | 50 => ("RiverTuesdaysModel", "jobMany", "I", false)
  | 51 => ("RiverTuesdaysModel", "takesOf", "[I", true)
  | 52 => ("RiverTuesdaysModel", "dueOf", "[I", true)
  | 53 => ("RiverTuesdaysModel", "order", "[I", true)
  | 54 => ("RiverTuesdaysModel", "bestOrder", "[I", true)
  | 55 => ("RiverTuesdaysModel", "leastLate", "I", false)
  | 56 => ("RiverTuesdaysModel", "wetTimes", "[I", true)
  | _ => ("RiverTuesdaysModel", "hash", "J", false)
def cY9 : Nat → FieldType := fun k => match k with
  | 0 => .int
  | 1 => .array .int
  | 2 => .int
  | 3 => .array .int
  | 4 => .array .int
  | 5 => .array .int
  | 6 => .array .int
  | 7 => .array .byte
  | 8 => .int
  | 9 => .int
  | 10 => .int
  | 11 => .array .int
  | 12 => .array .int
  | 13 => .array .int
  | 14 => .array .int
  | 15 => .array .int
  | 16 => .int
  | 17 => .int
  | 18 => .int
  | 19 => .int
  | 20 => .int
  | 21 => .array .int
  | 22 => .array .int
  | 23 => .array .int
  | 24 => .array .int
  | 25 => .int
  | 26 => .int
  | 27 => .array .int
  | 28 => .array .int
  | 29 => .array .int
  | 30 => .array .int
  | 31 => .array .int
  | 32 => .array .int
  | 33 => .array .int
  | 34 => .array .boolean
  | 35 => .int
  | 36 => .int
  | 37 => .int
  | 38 => .int
  | 39 => .int
  | 40 => .array .int
  | 41 => .array .int
  | 42 => .array .int
  | 43 => .array .boolean
  | 44 => .int
  | 45 => .int
  | 46 => .int
  | 47 => .int
  | 48 => .array .int
  | 49 => .array .int
  | 50 => .int
  | 51 => .array .int
  | 52 => .array .int
  | 53 => .array .int
  | 54 => .array .int
  | 55 => .int
  | 56 => .array .int
  | _ => .long
theorem cD9 : ∀ a, a < 58 → ∀ b, b < 58 → a ≠ b → (cT9 a).2.1 ≠ (cT9 b).2.1 := by decide +kernel
theorem cYo9 : ∀ k, k < 58 → parseFieldDescriptor (cT9 k).2.2.1 = some (cY9 k) := by decide +kernel
theorem cG9 : ∀ k, k < 58 → goodWord (u_lay cN9 cT9 k) = true := by decide +kernel
theorem cP9 : ∀ k, k < 58 → lw_tbl[([1100, 1102, 1104, 1106, 1108, 1110, 1112, 1114, 1116, 1118, 1120, 1122, 1124, 1126, 1128, 1130, 1132, 1134, 1136, 1138, 1140, 1142, 1144, 1146, 1148, 1150, 1152, 1154, 1156, 1158, 1160, 1162, 1164, 1166, 1168, 1170, 1172, 1174, 1176, 1178, 1180, 1182, 1184, 1186, 1188, 1190, 1192, 1194, 1196, 1198, 1200, 1202, 1204, 1206, 1208, 1210, 1212, 1214] : List Nat).getD k 0]? = some (u_lay cN9 cT9 k) := by decide +kernel
theorem cW9 : ∀ w ∈ u_ws cN9 cT9 58, w ∈ GW := by
  intro w hw
  obtain ⟨k, hk, rfl⟩ := List.mem_map.mp hw
  have hk := List.mem_range.mp hk
  exact mGW (List.mem_of_getElem? (cP9 k hk)) (cG9 k hk)
abbrev cCl : List vw_C := [(cN0, cT0, 8), (cN1, cT1, 4), (cN2, cT2, 5), (cN3, cT3, 2), (cN4, cT4, 5), (cN5, cT5, 2), (cN6, cT6, 6), (cN7, cT7, 7), (cN8, cT8, 14), (cN9, cT9, 58)]
/-- what the numbers of the world are: by cell, by place -/
abbrev Dt : Type := Nat → Nat → Int32
/-- launch, addresses by numbers, the kit's tables of classes, the array classes by kinds -/
abbrev GmT : Type := Launch × (Nat → Nat) × va_G × (Nat → ClassId)
def kdL : List Nat := [8, 13, 15, 4, 0, 11, 11, 11, 11, 11, 7, 11, 11, 11, 11, 11, 11, 11, 14, 12, 0, 11, 11, 11, 11, 11, 7, 11, 11, 11, 11, 11, 6, 16, 11, 11, 17, 11, 11, 11, 11, 11, 11, 11, 11, 11, 7, 11, 11, 11, 11, 11, 7, 11, 11, 11, 11, 11, 7, 11, 11, 11, 11, 11, 7, 11, 11, 11, 11, 11, 7, 11, 11, 11, 11, 11, 7, 11, 11, 11, 11, 11, 7, 11, 11, 11, 11, 11, 7, 11, 11, 11, 11, 11, 7, 11, 11, 11, 11, 11, 1, 11, 11, 11, 2, 11, 11, 11, 11, 11, 11, 3, 11, 3, 11, 3, 11, 3, 11, 3, 11, 3, 11, 5, 10, 5, 10, 5, 10, 5, 10, 4, 0, 11, 11, 11, 11, 11, 7, 11, 11, 11, 11, 11, 11, 11, 4, 0, 11, 11, 11, 11, 11, 7, 11, 11, 11, 11, 11, 11, 11, 4, 0, 11, 11, 11, 11, 11, 7, 11, 11, 11, 11, 11, 11, 11, 9, 11, 11, 11, 11, 11, 10, 11, 11, 11, 11, 11, 11, 11, 11, 11, 11, 11, 11, 11, 11, 11, 11, 12, 11, 11, 11, 12, 11, 11, 11, 11, 11, 11, 11]
def lnL : List Nat := [0, 6, 4, 0, 0, 8, 8, 8, 8, 8, 0, 8, 8, 8, 8, 8, 1560, 60, 3, 3, 0, 8, 8, 8, 8, 8, 0, 8, 8, 8, 8, 8, 0, 9, 9, 9, 9, 8, 8, 8, 8, 8, 8, 8, 8, 8, 0, 8, 8, 8, 8, 8, 0, 8, 8, 8, 8, 8, 0, 8, 8, 8, 8, 8, 0, 8, 8, 8, 8, 8, 0, 8, 8, 8, 8, 8, 0, 8, 8, 8, 8, 8, 0, 8, 8, 8, 8, 8, 0, 8, 8, 8, 8, 8, 0, 8, 8, 8, 8, 8, 0, 256, 2048, 1000, 0, 6, 6, 6, 6, 8, 6, 0, 60, 0, 60, 0, 60, 0, 60, 0, 60, 0, 60, 0, 60, 0, 60, 0, 60, 0, 60, 0, 0, 8, 8, 8, 8, 8, 0, 8, 8, 8, 8, 8, 1560, 60, 0, 0, 8, 8, 8, 8, 8, 0, 8, 8, 8, 8, 8, 1560, 60, 0, 0, 8, 8, 8, 8, 8, 0, 8, 8, 8, 8, 8, 1560, 60, 0, 6, 6, 360, 60, 4, 240, 8, 8, 8, 8, 8, 32, 52, 8, 8, 1620, 3, 78, 24, 24, 3, 4860, 3, 8, 8, 8, 256, 1000, 8, 6, 6, 6, 6, 8]
def kd (k : Nat) : Nat := kdL.getD k 99
def ln (k : Nat) : Nat := lnL.getD k 0
theorem kd_lt {k : Nat} (h : kd k < 99) : k < 211 := by
  rcases Nat.lt_or_ge k 211 with q | q
  · exact q
  · have e : kd k = 99 := by unfold kd; rw [List.getD_eq_getElem?_getD, List.getElem?_eq_none (show kdL.length ≤ k from q)]; rfl
    omega
/-- a long out of two ints, and back -/
def i64 (hi lo : Int32) : Int64 := Int64.ofBitVec (hi.toBitVec ++ lo.toBitVec)
def hi64 (x : Int64) : Int32 := Int32.ofBitVec (x.toBitVec.extractLsb' 32 32)
def lo64 (x : Int64) : Int32 := Int32.ofBitVec (x.toBitVec.extractLsb' 0 32)
def fl0 (Γ : GmT) (d : Nat → Int32) (k : Nat) : List Value := [.ref (Γ.2.1 (k + 1)), .ref (Γ.2.1 (k + 2)), .ref (Γ.2.1 (k + 3)), .ref (Γ.2.1 (k + 4)), .ref (Γ.2.1 (k + 5)), .int (d 5), .int (d 6), .int (d 7)]
def fl1 (Γ : GmT) (d : Nat → Int32) (k : Nat) : List Value := [.ref (Γ.2.1 101), .ref (Γ.2.1 102), .ref (Γ.2.1 103), .int (d 3)]
def fl2 (Γ : GmT) (d : Nat → Int32) (k : Nat) : List Value := [.ref (Γ.2.1 105), .ref (Γ.2.1 106), .ref (Γ.2.1 107), .ref (Γ.2.1 108), .int (d 4)]
def fl3 (Γ : GmT) (d : Nat → Int32) (k : Nat) : List Value := [.ref (Γ.2.1 (k + 1)), .int (d 1)]
def fl4 (Γ : GmT) (d : Nat → Int32) (k : Nat) : List Value := [.ref (Γ.2.1 (k + 1)), .ref (Γ.2.1 (k + 7)), .ref (Γ.2.1 (k + 13)), .ref (Γ.2.1 (k + 14)), .int (d 4)]
def fl5 (Γ : GmT) (d : Nat → Int32) (k : Nat) : List Value := [.ref (Γ.2.1 (k + 1)), .int (d 1)]
def fl6 (Γ : GmT) (d : Nat → Int32) (k : Nat) : List Value := [.ref (Γ.2.1 33), .ref (Γ.2.1 34), .ref (Γ.2.1 35), .ref (Γ.2.1 36), .int (d 4), .int (d 5)]
def fl7 (Γ : GmT) (d : Nat → Int32) (k : Nat) : List Value := [.ref (Γ.2.1 (k + 1)), .ref (Γ.2.1 (k + 2)), .ref (Γ.2.1 (k + 3)), .ref (Γ.2.1 (k + 4)), .ref (Γ.2.1 (k + 5)), .int (d 5), .int (d 6)]
def fl8 (Γ : GmT) (d : Nat → Int32) (k : Nat) : List Value := [.ref (Γ.2.1 1), .ref (Γ.2.1 2), .ref (Γ.2.1 3), .ref (Γ.2.1 18), .ref (Γ.2.1 19), .ref (Γ.2.1 20), .ref (Γ.2.1 26), .ref (Γ.2.1 32), .ref (Γ.2.1 100), .ref (Γ.2.1 104), .ref (Γ.2.1 109), .ref (Γ.2.1 110), .int (d 12), .int (d 13)]
def fl9 (Γ : GmT) (d : Nat → Int32) (k : Nat) : List Value := [.int (d 0), .ref (Γ.2.1 177), .int (d 2), .ref (Γ.2.1 178), .ref (Γ.2.1 179), .ref (Γ.2.1 180), .ref (Γ.2.1 181), .ref (Γ.2.1 182), .int (d 8), .int (d 9), .int (d 10), .ref (Γ.2.1 183), .ref (Γ.2.1 184), .ref (Γ.2.1 185), .ref (Γ.2.1 186), .ref (Γ.2.1 187), .int (d 16), .int (d 17), .int (d 18), .int (d 19), .int (d 20), .ref (Γ.2.1 188), .ref (Γ.2.1 189), .ref (Γ.2.1 190), .ref (Γ.2.1 191), .int (d 25), .int (d 26), .ref (Γ.2.1 192), .ref (Γ.2.1 193), .ref (Γ.2.1 194), .ref (Γ.2.1 195), .ref (Γ.2.1 196), .ref (Γ.2.1 197), .ref (Γ.2.1 198), .ref (Γ.2.1 199), .int (d 35), .int (d 36), .int (d 37), .int (d 38), .int (d 39), .ref (Γ.2.1 200), .ref (Γ.2.1 201), .ref (Γ.2.1 202), .ref (Γ.2.1 203), .int (d 44), .int (d 45), .int (d 46), .int (d 47), .ref (Γ.2.1 204), .ref (Γ.2.1 205), .int (d 50), .ref (Γ.2.1 206), .ref (Γ.2.1 207), .ref (Γ.2.1 208), .ref (Γ.2.1 209), .int (d 55), .ref (Γ.2.1 210), .long (i64 (d 57) (d 58))]
def enc (Γ : GmT) (d : Nat → Int32) (k : Nat) : va_E := match kd k with
  | 0 => .inr (0, fl0 Γ d k)
  | 1 => .inr (1, fl1 Γ d k)
  | 2 => .inr (2, fl2 Γ d k)
  | 3 => .inr (3, fl3 Γ d k)
  | 4 => .inr (4, fl4 Γ d k)
  | 5 => .inr (5, fl5 Γ d k)
  | 6 => .inr (6, fl6 Γ d k)
  | 7 => .inr (7, fl7 Γ d k)
  | 8 => .inr (8, fl8 Γ d k)
  | 9 => .inr (9, fl9 Γ d k)
  | 10 => .inl (Γ.2.2.2 10, ln k, .inl d)
  | 11 => .inl (Γ.2.2.2 11, ln k, .inl d)
  | 12 => .inl (Γ.2.2.2 12, ln k, .inl d)
  | 13 => .inl (Γ.2.2.2 13, ln k, .inr (.inr (.inr (.inr (fun j => some (Γ.2.1 (111 + 2 * j)))))))
  | 14 => .inl (Γ.2.2.2 14, ln k, .inr (.inr (.inr (.inr (fun j => some (Γ.2.1 (131 + 15 * j)))))))
  | 15 => .inl (Γ.2.2.2 15, ln k, .inr (.inr (.inr (.inr (fun j => some (Γ.2.1 (123 + 2 * j)))))))
  | 16 => .inl (Γ.2.2.2 16, ln k, .inr (.inr (.inr (.inr (fun j => some (Γ.2.1 (46 + 6 * j)))))))
  | 17 => .inl (Γ.2.2.2 17, ln k, .inr (.inr (.inr (.inr (fun j => some (Γ.2.1 (37 + 1 * j)))))))
  | _ => .inr (0, [])
theorem enc0 (Γ : GmT) (d : Nat → Int32) {k : Nat} (h : kd k = 0) : enc Γ d k = .inr (0, fl0 Γ d k) := by unfold enc; rw [h]; rfl
theorem enc1 (Γ : GmT) (d : Nat → Int32) {k : Nat} (h : kd k = 1) : enc Γ d k = .inr (1, fl1 Γ d k) := by unfold enc; rw [h]; rfl
theorem enc2 (Γ : GmT) (d : Nat → Int32) {k : Nat} (h : kd k = 2) : enc Γ d k = .inr (2, fl2 Γ d k) := by unfold enc; rw [h]; rfl
theorem enc3 (Γ : GmT) (d : Nat → Int32) {k : Nat} (h : kd k = 3) : enc Γ d k = .inr (3, fl3 Γ d k) := by unfold enc; rw [h]; rfl
theorem enc4 (Γ : GmT) (d : Nat → Int32) {k : Nat} (h : kd k = 4) : enc Γ d k = .inr (4, fl4 Γ d k) := by unfold enc; rw [h]; rfl
theorem enc5 (Γ : GmT) (d : Nat → Int32) {k : Nat} (h : kd k = 5) : enc Γ d k = .inr (5, fl5 Γ d k) := by unfold enc; rw [h]; rfl
theorem enc6 (Γ : GmT) (d : Nat → Int32) {k : Nat} (h : kd k = 6) : enc Γ d k = .inr (6, fl6 Γ d k) := by unfold enc; rw [h]; rfl
theorem enc7 (Γ : GmT) (d : Nat → Int32) {k : Nat} (h : kd k = 7) : enc Γ d k = .inr (7, fl7 Γ d k) := by unfold enc; rw [h]; rfl
theorem enc8 (Γ : GmT) (d : Nat → Int32) {k : Nat} (h : kd k = 8) : enc Γ d k = .inr (8, fl8 Γ d k) := by unfold enc; rw [h]; rfl
theorem enc9 (Γ : GmT) (d : Nat → Int32) {k : Nat} (h : kd k = 9) : enc Γ d k = .inr (9, fl9 Γ d k) := by unfold enc; rw [h]; rfl
theorem enc10 (Γ : GmT) (d : Nat → Int32) {k : Nat} (h : kd k = 10) : enc Γ d k = .inl (Γ.2.2.2 10, ln k, .inl d) := by unfold enc; rw [h]; rfl
theorem enc11 (Γ : GmT) (d : Nat → Int32) {k : Nat} (h : kd k = 11) : enc Γ d k = .inl (Γ.2.2.2 11, ln k, .inl d) := by unfold enc; rw [h]; rfl
theorem enc12 (Γ : GmT) (d : Nat → Int32) {k : Nat} (h : kd k = 12) : enc Γ d k = .inl (Γ.2.2.2 12, ln k, .inl d) := by unfold enc; rw [h]; rfl
theorem enc13 (Γ : GmT) (d : Nat → Int32) {k : Nat} (h : kd k = 13) : enc Γ d k = .inl (Γ.2.2.2 13, ln k, .inr (.inr (.inr (.inr (fun j => some (Γ.2.1 (111 + 2 * j))))))) := by unfold enc; rw [h]; rfl
theorem enc14 (Γ : GmT) (d : Nat → Int32) {k : Nat} (h : kd k = 14) : enc Γ d k = .inl (Γ.2.2.2 14, ln k, .inr (.inr (.inr (.inr (fun j => some (Γ.2.1 (131 + 15 * j))))))) := by unfold enc; rw [h]; rfl
theorem enc15 (Γ : GmT) (d : Nat → Int32) {k : Nat} (h : kd k = 15) : enc Γ d k = .inl (Γ.2.2.2 15, ln k, .inr (.inr (.inr (.inr (fun j => some (Γ.2.1 (123 + 2 * j))))))) := by unfold enc; rw [h]; rfl
theorem enc16 (Γ : GmT) (d : Nat → Int32) {k : Nat} (h : kd k = 16) : enc Γ d k = .inl (Γ.2.2.2 16, ln k, .inr (.inr (.inr (.inr (fun j => some (Γ.2.1 (46 + 6 * j))))))) := by unfold enc; rw [h]; rfl
theorem enc17 (Γ : GmT) (d : Nat → Int32) {k : Nat} (h : kd k = 17) : enc Γ d k = .inl (Γ.2.2.2 17, ln k, .inr (.inr (.inr (.inr (fun j => some (Γ.2.1 (37 + 1 * j))))))) := by unfold enc; rw [h]; rfl
/-- what is an array of ints (bytes, booleans, references) of so many places -/
def isA (t a n : Nat) : Prop := kd a = t ∧ ln a = n
theorem kq0_Bed_kinds : ∀ b, b < 211 → kd b = 0 → kd (b + 1) = 11 ∧ ln (b + 1) = 8 := by decide +kernel
theorem kq_Bed_kinds {b : Nat} (h : kd b = 0) : isA 11 (b + 1) 8 := kq0_Bed_kinds b (kd_lt (by omega)) h
theorem kq0_Bed_ground : ∀ b, b < 211 → kd b = 0 → kd (b + 2) = 11 ∧ ln (b + 2) = 8 := by decide +kernel
theorem kq_Bed_ground {b : Nat} (h : kd b = 0) : isA 11 (b + 2) 8 := kq0_Bed_ground b (kd_lt (by omega)) h
theorem kq0_Bed_height : ∀ b, b < 211 → kd b = 0 → kd (b + 3) = 11 ∧ ln (b + 3) = 8 := by decide +kernel
theorem kq_Bed_height {b : Nat} (h : kd b = 0) : isA 11 (b + 3) 8 := kq0_Bed_height b (kd_lt (by omega)) h
theorem kq0_Bed_cellar : ∀ b, b < 211 → kd b = 0 → kd (b + 4) = 11 ∧ ln (b + 4) = 8 := by decide +kernel
theorem kq_Bed_cellar {b : Nat} (h : kd b = 0) : isA 11 (b + 4) 8 := kq0_Bed_cellar b (kd_lt (by omega)) h
theorem kq0_Bed_shutBit : ∀ b, b < 211 → kd b = 0 → kd (b + 5) = 11 ∧ ln (b + 5) = 8 := by decide +kernel
theorem kq_Bed_shutBit {b : Nat} (h : kd b = 0) : isA 11 (b + 5) 8 := kq0_Bed_shutBit b (kd_lt (by omega)) h
theorem kq_Fits_plans : isA 11 101 256 := ⟨by decide +kernel, by decide +kernel⟩
theorem kq_Fits_markOf : isA 11 102 2048 := ⟨by decide +kernel, by decide +kernel⟩
theorem kq_Fits_tally : isA 11 103 1000 := ⟨by decide +kernel, by decide +kernel⟩
theorem kq_Jobs_takes : isA 11 105 6 := ⟨by decide +kernel, by decide +kernel⟩
theorem kq_Jobs_due : isA 11 106 6 := ⟨by decide +kernel, by decide +kernel⟩
theorem kq_Jobs_order : isA 11 107 6 := ⟨by decide +kernel, by decide +kernel⟩
theorem kq_Jobs_bestOrder : isA 11 108 6 := ⟨by decide +kernel, by decide +kernel⟩
theorem kq0_Row_places : ∀ b, b < 211 → kd b = 3 → kd (b + 1) = 11 ∧ ln (b + 1) = 60 := by decide +kernel
theorem kq_Row_places {b : Nat} (h : kd b = 3) : isA 11 (b + 1) 60 := kq0_Row_places b (kd_lt (by omega)) h
theorem kq0_Street_bed : ∀ b, b < 211 → kd b = 4 → kd (b + 1) = 0 := by decide +kernel
theorem kq_Street_bed {b : Nat} (h : kd b = 4) : kd (b + 1) = 0 := kq0_Street_bed b (kd_lt (by omega)) h
theorem kq0_Street_now : ∀ b, b < 211 → kd b = 4 → kd (b + 7) = 7 := by decide +kernel
theorem kq_Street_now {b : Nat} (h : kd b = 4) : kd (b + 7) = 7 := kq0_Street_now b (kd_lt (by omega)) h
theorem kq0_Street_past : ∀ b, b < 211 → kd b = 4 → kd (b + 13) = 11 ∧ ln (b + 13) = 1560 := by decide +kernel
theorem kq_Street_past {b : Nat} (h : kd b = 4) : isA 11 (b + 13) 1560 := kq0_Street_past b (kd_lt (by omega)) h
theorem kq0_Street_openBit : ∀ b, b < 211 → kd b = 4 → kd (b + 14) = 11 ∧ ln (b + 14) = 60 := by decide +kernel
theorem kq_Street_openBit {b : Nat} (h : kd b = 4) : isA 11 (b + 14) 60 := kq0_Street_openBit b (kd_lt (by omega)) h
theorem kq0_Text_signs : ∀ b, b < 211 → kd b = 5 → kd (b + 1) = 10 ∧ ln (b + 1) = 60 := by decide +kernel
theorem kq_Text_signs {b : Nat} (h : kd b = 5) : isA 10 (b + 1) 60 := kq0_Text_signs b (kd_lt (by omega)) h
theorem kq_Tuesday_behind : isA 16 33 9 := ⟨by decide +kernel, by decide +kernel⟩
theorem kq_Tuesday_harmSoFar : isA 11 34 9 := ⟨by decide +kernel, by decide +kernel⟩
theorem kq_Tuesday_wetBits : isA 11 35 9 := ⟨by decide +kernel, by decide +kernel⟩
theorem kq_Tuesday_markAt : isA 17 36 9 := ⟨by decide +kernel, by decide +kernel⟩
theorem kq0_Waters_ahead : ∀ b, b < 211 → kd b = 7 → kd (b + 1) = 11 ∧ ln (b + 1) = 8 := by decide +kernel
theorem kq_Waters_ahead {b : Nat} (h : kd b = 7) : isA 11 (b + 1) 8 := kq0_Waters_ahead b (kd_lt (by omega)) h
theorem kq0_Waters_below : ∀ b, b < 211 → kd b = 7 → kd (b + 2) = 11 ∧ ln (b + 2) = 8 := by decide +kernel
theorem kq_Waters_below {b : Nat} (h : kd b = 7) : isA 11 (b + 2) 8 := kq0_Waters_below b (kd_lt (by omega)) h
theorem kq0_Waters_flour : ∀ b, b < 211 → kd b = 7 → kd (b + 3) = 11 ∧ ln (b + 3) = 8 := by decide +kernel
theorem kq_Waters_flour {b : Nat} (h : kd b = 7) : isA 11 (b + 3) 8 := kq0_Waters_flour b (kd_lt (by omega)) h
theorem kq0_Waters_ran : ∀ b, b < 211 → kd b = 7 → kd (b + 4) = 11 ∧ ln (b + 4) = 8 := by decide +kernel
theorem kq_Waters_ran {b : Nat} (h : kd b = 7) : isA 11 (b + 4) 8 := kq0_Waters_ran b (kd_lt (by omega)) h
theorem kq0_Waters_sank : ∀ b, b < 211 → kd b = 7 → kd (b + 5) = 11 ∧ ln (b + 5) = 8 := by decide +kernel
theorem kq_Waters_sank {b : Nat} (h : kd b = 7) : isA 11 (b + 5) 8 := kq0_Waters_sank b (kd_lt (by omega)) h
theorem kq_Root_rows : isA 13 1 6 := ⟨by decide +kernel, by decide +kernel⟩
theorem kq_Root_texts : isA 15 2 4 := ⟨by decide +kernel, by decide +kernel⟩
theorem kq_Root_present : kd 3 = 4 := by decide +kernel
theorem kq_Root_kept : isA 14 18 3 := ⟨by decide +kernel, by decide +kernel⟩
theorem kq_Root_isKept : isA 12 19 3 := ⟨by decide +kernel, by decide +kernel⟩
theorem kq_Root_trialBed : kd 20 = 0 := by decide +kernel
theorem kq_Root_trialWaters : kd 26 = 7 := by decide +kernel
theorem kq_Root_today : kd 32 = 6 := by decide +kernel
theorem kq_Root_fits : kd 100 = 1 := by decide +kernel
theorem kq_Root_jobs : kd 104 = 2 := by decide +kernel
theorem kq_Root_perHouse : isA 11 109 8 := ⟨by decide +kernel, by decide +kernel⟩
theorem kq_Root_timesFound : isA 11 110 6 := ⟨by decide +kernel, by decide +kernel⟩
theorem kq_Model_came : isA 11 177 6 := ⟨by decide +kernel, by decide +kernel⟩
theorem kq_Model_sizes : isA 11 178 6 := ⟨by decide +kernel, by decide +kernel⟩
theorem kq_Model_rows : isA 11 179 360 := ⟨by decide +kernel, by decide +kernel⟩
theorem kq_Model_copied : isA 11 180 60 := ⟨by decide +kernel, by decide +kernel⟩
theorem kq_Model_textSizes : isA 11 181 4 := ⟨by decide +kernel, by decide +kernel⟩
theorem kq_Model_bytes : isA 10 182 240 := ⟨by decide +kernel, by decide +kernel⟩
theorem kq_Model_kinds : isA 11 183 8 := ⟨by decide +kernel, by decide +kernel⟩
theorem kq_Model_floors : isA 11 184 8 := ⟨by decide +kernel, by decide +kernel⟩
theorem kq_Model_sills : isA 11 185 8 := ⟨by decide +kernel, by decide +kernel⟩
theorem kq_Model_rooms : isA 11 186 8 := ⟨by decide +kernel, by decide +kernel⟩
theorem kq_Model_shutNow : isA 11 187 8 := ⟨by decide +kernel, by decide +kernel⟩
theorem kq_Model_readHouses : isA 11 188 32 := ⟨by decide +kernel, by decide +kernel⟩
theorem kq_Model_streets : isA 11 189 52 := ⟨by decide +kernel, by decide +kernel⟩
theorem kq_Model_ran : isA 11 190 8 := ⟨by decide +kernel, by decide +kernel⟩
theorem kq_Model_got : isA 11 191 8 := ⟨by decide +kernel, by decide +kernel⟩
theorem kq_Model_hours : isA 11 192 1620 := ⟨by decide +kernel, by decide +kernel⟩
theorem kq_Model_keptHours : isA 11 193 3 := ⟨by decide +kernel, by decide +kernel⟩
theorem kq_Model_keptNow : isA 11 194 78 := ⟨by decide +kernel, by decide +kernel⟩
theorem kq_Model_keptSills : isA 11 195 24 := ⟨by decide +kernel, by decide +kernel⟩
theorem kq_Model_keptShut : isA 11 196 24 := ⟨by decide +kernel, by decide +kernel⟩
theorem kq_Model_keptFlow : isA 11 197 3 := ⟨by decide +kernel, by decide +kernel⟩
theorem kq_Model_keptLog : isA 11 198 4860 := ⟨by decide +kernel, by decide +kernel⟩
theorem kq_Model_isKept : isA 12 199 3 := ⟨by decide +kernel, by decide +kernel⟩
theorem kq_Model_wetHour : isA 11 200 8 := ⟨by decide +kernel, by decide +kernel⟩
theorem kq_Model_cutSets : isA 11 201 8 := ⟨by decide +kernel, by decide +kernel⟩
theorem kq_Model_marksOf : isA 11 202 8 := ⟨by decide +kernel, by decide +kernel⟩
theorem kq_Model_fitting : isA 12 203 256 := ⟨by decide +kernel, by decide +kernel⟩
theorem kq_Model_byMark : isA 11 204 1000 := ⟨by decide +kernel, by decide +kernel⟩
theorem kq_Model_raised : isA 11 205 8 := ⟨by decide +kernel, by decide +kernel⟩
theorem kq_Model_takesOf : isA 11 206 6 := ⟨by decide +kernel, by decide +kernel⟩
theorem kq_Model_dueOf : isA 11 207 6 := ⟨by decide +kernel, by decide +kernel⟩
theorem kq_Model_order : isA 11 208 6 := ⟨by decide +kernel, by decide +kernel⟩
theorem kq_Model_bestOrder : isA 11 209 6 := ⟨by decide +kernel, by decide +kernel⟩
theorem kq_Model_wetTimes : isA 11 210 8 := ⟨by decide +kernel, by decide +kernel⟩
theorem ke13 : ∀ j, j < 6 → kd (111 + 2 * j) = 3 := by decide +kernel
theorem ke14 : ∀ j, j < 3 → kd (131 + 15 * j) = 4 := by decide +kernel
theorem ke15 : ∀ j, j < 4 → kd (123 + 2 * j) = 5 := by decide +kernel
theorem ke16 : ∀ j, j < 9 → kd (46 + 6 * j) = 7 := by decide +kernel
theorem ke17 : ∀ j, j < 9 → isA 11 (37 + 1 * j) 8 := by
  have h : ∀ j, j < 9 → kd (37 + 1 * j) = 11 ∧ ln (37 + 1 * j) = 8 := by decide +kernel
  exact h
