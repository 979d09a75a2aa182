/-! NAMES: kinds, fields, words (printed by gen/names.py) -/
def zFK : Nat → List Nat := fun c => match c with
  | 0 => [2]
  | 1 => [2, 2]
  | 2 => [2]
  | 3 => [2, 2, 2, 2, 2, 2, 2, 2, 2, 2, 2, 0, 0, 0, 0]
  | 4 => [2, 2, 2, 2, 2, 2, 2, 2, 0, 0]
  | 5 => [2, 2, 0, 0]
  | 6 => [2, 0]
  | 7 => [2, 2, 2, 2, 0, 0]
  | 8 => [2, 0, 0, 0, 0, 0]
  | 9 => [2, 2, 2, 2, 2, 0, 0]
  | 10 => [2, 2, 2, 2, 2, 2, 2, 2, 2, 2, 2, 2, 2, 2, 0, 0, 0, 0, 0]
  | 11 => [0, 0, 2, 2, 2, 2, 2, 2, 0, 2, 2, 0, 2, 0, 0, 0, 0, 1, 0, 0, 0, 0, 2, 0, 2, 2, 0, 2, 2, 0, 0, 2, 2, 2, 0, 2, 2, 2, 0, 1, 1, 2, 2, 2, 2, 2, 2, 2, 2, 2, 0, 0, 0, 0, 1, 2, 0]
  | _ => []
def zT16 : String := "NightColander$Text"
def zT17 : String := "NightColander$Night"
def zR0 : String := "NightColander$Deeds"
def zT_0 : u_T := fun k => match k with
  | _ => ("NightColander$Deeds", "judge", "LNightColander$Judge;", true)
def zty_0 : Nat → FieldType := fun k => match k with
  | _ => .object "NightColander$Judge"
theorem znm_0 : ∀ a, a < 1 → ∀ b, b < 1 → a ≠ b → (zT_0 a).2.1 ≠ (zT_0 b).2.1 := by decide +kernel
theorem zok_0 : ∀ k, k < 1 → parseFieldDescriptor (zT_0 k).2.2.1 = some (zty_0 k) := by decide +kernel
def zR1 : String := "NightColander$Judge"
def zT_1 : u_T := fun k => match k with
  | 0 => ("NightColander$Judge", "machine", "LNightColander$Machine;", true)
  | _ => ("NightColander$Judge", "words", "[I", true)
def zty_1 : Nat → FieldType := fun k => match k with
  | 0 => .object "NightColander$Machine"
  | _ => .array .int
theorem znm_1 : ∀ a, a < 2 → ∀ b, b < 2 → a ≠ b → (zT_1 a).2.1 ≠ (zT_1 b).2.1 := by decide +kernel
theorem zok_1 : ∀ k, k < 2 → parseFieldDescriptor (zT_1 k).2.2.1 = some (zty_1 k) := by decide +kernel
def zR2 : String := "NightColander$Machine"
def zT_2 : u_T := fun k => match k with
  | _ => ("NightColander$Machine", "stack", "[I", true)
def zty_2 : Nat → FieldType := fun k => match k with
  | _ => .array .int
theorem znm_2 : ∀ a, a < 1 → ∀ b, b < 1 → a ≠ b → (zT_2 a).2.1 ≠ (zT_2 b).2.1 := by decide +kernel
theorem zok_2 : ∀ k, k < 1 → parseFieldDescriptor (zT_2 k).2.2.1 = some (zty_2 k) := by decide +kernel
def zR3 : String := "NightColander$Night"
def zT_3 : u_T := fun k => match k with
  | 0 => ("NightColander$Night", "bores", "[I", true)
  | 1 => ("NightColander$Night", "blocked", "[Z", true)
  | 2 => ("NightColander$Night", "turns", "[I", true)
  | 3 => ("NightColander$Night", "sizes", "[I", true)
  | 4 => ("NightColander$Night", "levels", "[I", true)
  | 5 => ("NightColander$Night", "fields", "[I", true)
  | 6 => ("NightColander$Night", "wants", "[I", true)
  | 7 => ("NightColander$Night", "seenFields", "[I", true)
  | 8 => ("NightColander$Night", "seenThreads", "[I", true)
  | 9 => ("NightColander$Night", "terms", "[I", true)
  | 10 => ("NightColander$Night", "laws", "[LNightColander$Text;", true)
  | 11 => ("NightColander$Night", "bucketCount", "I", false)
  | 12 => ("NightColander$Night", "seenCount", "I", false)
  | 13 => ("NightColander$Night", "lawCount", "I", false)
  | _ => ("NightColander$Night", "inForce", "I", false)
def zty_3 : Nat → FieldType := fun k => match k with
  | 0 => .array .int
  | 1 => .array .boolean
  | 2 => .array .int
  | 3 => .array .int
  | 4 => .array .int
  | 5 => .array .int
  | 6 => .array .int
  | 7 => .array .int
  | 8 => .array .int
  | 9 => .array .int
  | 10 => .array (.object "NightColander$Text")
  | 11 => .int
  | 12 => .int
  | 13 => .int
  | _ => .int
theorem znm_3 : ∀ a, a < 15 → ∀ b, b < 15 → a ≠ b → (zT_3 a).2.1 ≠ (zT_3 b).2.1 := by decide +kernel
theorem zok_3 : ∀ k, k < 15 → parseFieldDescriptor (zT_3 k).2.2.1 = some (zty_3 k) := by decide +kernel
def zR4 : String := "NightColander$Paper"
def zT_4 : u_T := fun k => match k with
  | 0 => ("NightColander$Paper", "judge", "LNightColander$Judge;", true)
  | 1 => ("NightColander$Paper", "sketch", "LNightColander$Night;", true)
  | 2 => ("NightColander$Paper", "shares", "[I", true)
  | 3 => ("NightColander$Paper", "falls", "[I", true)
  | 4 => ("NightColander$Paper", "catches", "[I", true)
  | 5 => ("NightColander$Paper", "fitting", "[I", true)
  | 6 => ("NightColander$Paper", "tally", "[I", true)
  | 7 => ("NightColander$Paper", "chances", "[J", true)
  | 8 => ("NightColander$Paper", "best", "I", false)
  | _ => ("NightColander$Paper", "choice", "I", false)
def zty_4 : Nat → FieldType := fun k => match k with
  | 0 => .object "NightColander$Judge"
  | 1 => .object "NightColander$Night"
  | 2 => .array .int
  | 3 => .array .int
  | 4 => .array .int
  | 5 => .array .int
  | 6 => .array .int
  | 7 => .array .long
  | 8 => .int
  | _ => .int
theorem znm_4 : ∀ a, a < 10 → ∀ b, b < 10 → a ≠ b → (zT_4 a).2.1 ≠ (zT_4 b).2.1 := by decide +kernel
theorem zok_4 : ∀ k, k < 10 → parseFieldDescriptor (zT_4 k).2.2.1 = some (zty_4 k) := by decide +kernel
def zR5 : String := "NightColander$Parser"
def zT_5 : u_T := fun k => match k with
  | 0 => ("NightColander$Parser", "text", "LNightColander$Text;", true)
  | 1 => ("NightColander$Parser", "tape", "LNightColander$Tape;", true)
  | 2 => ("NightColander$Parser", "ordering", "Z", false)
  | _ => ("NightColander$Parser", "parts", "I", false)
def zty_5 : Nat → FieldType := fun k => match k with
  | 0 => .object "NightColander$Text"
  | 1 => .object "NightColander$Tape"
  | 2 => .boolean
  | _ => .int
theorem znm_5 : ∀ a, a < 4 → ∀ b, b < 4 → a ≠ b → (zT_5 a).2.1 ≠ (zT_5 b).2.1 := by decide +kernel
theorem zok_5 : ∀ k, k < 4 → parseFieldDescriptor (zT_5 k).2.2.1 = some (zty_5 k) := by decide +kernel
def zR6 : String := "NightColander$Past"
def zT_6 : u_T := fun k => match k with
  | 0 => ("NightColander$Past", "rows", "[I", true)
  | _ => ("NightColander$Past", "kept", "I", false)
def zty_6 : Nat → FieldType := fun k => match k with
  | 0 => .array .int
  | _ => .int
theorem znm_6 : ∀ a, a < 2 → ∀ b, b < 2 → a ≠ b → (zT_6 a).2.1 ≠ (zT_6 b).2.1 := by decide +kernel
theorem zok_6 : ∀ k, k < 2 → parseFieldDescriptor (zT_6 k).2.2.1 = some (zty_6 k) := by decide +kernel
def zR7 : String := "NightColander$Runner"
def zT_7 : u_T := fun k => match k with
  | 0 => ("NightColander$Runner", "judge", "LNightColander$Judge;", true)
  | 1 => ("NightColander$Runner", "deeds", "LNightColander$Deeds;", true)
  | 2 => ("NightColander$Runner", "machine", "LNightColander$Machine;", true)
  | 3 => ("NightColander$Runner", "words", "[I", true)
  | 4 => ("NightColander$Runner", "done", "I", false)
  | _ => ("NightColander$Runner", "latest", "I", false)
def zty_7 : Nat → FieldType := fun k => match k with
  | 0 => .object "NightColander$Judge"
  | 1 => .object "NightColander$Deeds"
  | 2 => .object "NightColander$Machine"
  | 3 => .array .int
  | 4 => .int
  | _ => .int
theorem znm_7 : ∀ a, a < 6 → ∀ b, b < 6 → a ≠ b → (zT_7 a).2.1 ≠ (zT_7 b).2.1 := by decide +kernel
theorem zok_7 : ∀ k, k < 6 → parseFieldDescriptor (zT_7 k).2.2.1 = some (zty_7 k) := by decide +kernel
def zR8 : String := "NightColander$Tape"
def zT_8 : u_T := fun k => match k with
  | 0 => ("NightColander$Tape", "bytes", "[B", true)
  | 1 => ("NightColander$Tape", "length", "I", false)
  | 2 => ("NightColander$Tape", "kind", "I", false)
  | 3 => ("NightColander$Tape", "start", "I", false)
  | 4 => ("NightColander$Tape", "behind", "I", false)
  | _ => ("NightColander$Tape", "value", "I", false)
def zty_8 : Nat → FieldType := fun k => match k with
  | 0 => .array .byte
  | 1 => .int
  | 2 => .int
  | 3 => .int
  | 4 => .int
  | _ => .int
theorem znm_8 : ∀ a, a < 6 → ∀ b, b < 6 → a ≠ b → (zT_8 a).2.1 ≠ (zT_8 b).2.1 := by decide +kernel
theorem zok_8 : ∀ k, k < 6 → parseFieldDescriptor (zT_8 k).2.2.1 = some (zty_8 k) := by decide +kernel
def zR9 : String := "NightColander$Text"
def zT_9 : u_T := fun k => match k with
  | 0 => ("NightColander$Text", "steps", "[I", true)
  | 1 => ("NightColander$Text", "kinds", "[I", true)
  | 2 => ("NightColander$Text", "times", "[I", true)
  | 3 => ("NightColander$Text", "words", "[I", true)
  | 4 => ("NightColander$Text", "marks", "[I", true)
  | 5 => ("NightColander$Text", "length", "I", false)
  | _ => ("NightColander$Text", "clauses", "I", false)
def zty_9 : Nat → FieldType := fun k => match k with
  | 0 => .array .int
  | 1 => .array .int
  | 2 => .array .int
  | 3 => .array .int
  | 4 => .array .int
  | 5 => .int
  | _ => .int
theorem znm_9 : ∀ a, a < 7 → ∀ b, b < 7 → a ≠ b → (zT_9 a).2.1 ≠ (zT_9 b).2.1 := by decide +kernel
theorem zok_9 : ∀ k, k < 7 → parseFieldDescriptor (zT_9 k).2.2.1 = some (zty_9 k) := by decide +kernel
def zR10 : String := "NightColander"
def zT_10 : u_T := fun k => match k with
  | 0 => ("NightColander", "now", "LNightColander$Night;", true)
  | 1 => ("NightColander", "images", "[LNightColander$Night;", true)
  | 2 => ("NightColander", "imageKept", "[Z", true)
  | 3 => ("NightColander", "yearsNight", "LNightColander$Night;", true)
  | 4 => ("NightColander", "aheadNight", "LNightColander$Night;", true)
  | 5 => ("NightColander", "past", "LNightColander$Past;", true)
  | 6 => ("NightColander", "aheadPast", "LNightColander$Past;", true)
  | 7 => ("NightColander", "tape", "LNightColander$Tape;", true)
  | 8 => ("NightColander", "parser", "LNightColander$Parser;", true)
  | 9 => ("NightColander", "judge", "LNightColander$Judge;", true)
  | 10 => ("NightColander", "deeds", "LNightColander$Deeds;", true)
  | 11 => ("NightColander", "runner", "LNightColander$Runner;", true)
  | 12 => ("NightColander", "paper", "LNightColander$Paper;", true)
  | 13 => ("NightColander", "refusals", "[I", true)
  | 14 => ("NightColander", "yearsKept", "Z", false)
  | 15 => ("NightColander", "latestStatus", "I", false)
  | 16 => ("NightColander", "latestPeas", "I", false)
  | 17 => ("NightColander", "latestFault", "I", false)
  | _ => ("NightColander", "latestStop", "I", false)
def zty_10 : Nat → FieldType := fun k => match k with
  | 0 => .object "NightColander$Night"
  | 1 => .array (.object "NightColander$Night")
  | 2 => .array .boolean
  | 3 => .object "NightColander$Night"
  | 4 => .object "NightColander$Night"
  | 5 => .object "NightColander$Past"
  | 6 => .object "NightColander$Past"
  | 7 => .object "NightColander$Tape"
  | 8 => .object "NightColander$Parser"
  | 9 => .object "NightColander$Judge"
  | 10 => .object "NightColander$Deeds"
  | 11 => .object "NightColander$Runner"
  | 12 => .object "NightColander$Paper"
  | 13 => .array .int
  | 14 => .boolean
  | 15 => .int
  | 16 => .int
  | 17 => .int
  | _ => .int
theorem znm_10 : ∀ a, a < 19 → ∀ b, b < 19 → a ≠ b → (zT_10 a).2.1 ≠ (zT_10 b).2.1 := by decide +kernel
theorem zok_10 : ∀ k, k < 19 → parseFieldDescriptor (zT_10 k).2.2.1 = some (zty_10 k) := by decide +kernel
def zR11 : String := "NightColanderModel"
def zT_11 : u_T := fun k => match k with
  | 0 => ("NightColanderModel", "thrown", "I", false)
  | 1 => ("NightColanderModel", "status", "I", false)
  | 2 => ("NightColanderModel", "refusals", "[I", true)
  | 3 => ("NightColanderModel", "row", "[I", true)
  | 4 => ("NightColanderModel", "images", "[I", true)
  | 5 => ("NightColanderModel", "isKept", "[Z", true)
  | 6 => ("NightColanderModel", "undos", "[I", true)
  | 7 => ("NightColanderModel", "sorts", "[I", true)
  | 8 => ("NightColanderModel", "nUndo", "I", false)
  | 9 => ("NightColanderModel", "undosBefore", "[I", true)
  | 10 => ("NightColanderModel", "sortsBefore", "[I", true)
  | 11 => ("NightColanderModel", "peas", "I", false)
  | 12 => ("NightColanderModel", "tape", "[I", true)
  | 13 => ("NightColanderModel", "taped", "I", false)
  | 14 => ("NightColanderModel", "from", "I", false)
  | 15 => ("NightColanderModel", "to", "I", false)
  | 16 => ("NightColanderModel", "sort", "I", false)
  | 17 => ("NightColanderModel", "worth", "J", false)
  | 18 => ("NightColanderModel", "fault", "I", false)
  | 19 => ("NightColanderModel", "bad", "Z", false)
  | 20 => ("NightColanderModel", "ordered", "Z", false)
  | 21 => ("NightColanderModel", "nClauses", "I", false)
  | 22 => ("NightColanderModel", "nClause", "[I", true)
  | 23 => ("NightColanderModel", "nCode", "I", false)
  | 24 => ("NightColanderModel", "nOp", "[I", true)
  | 25 => ("NightColanderModel", "nArg", "[I", true)
  | 26 => ("NightColanderModel", "nLeaves", "I", false)
  | 27 => ("NightColanderModel", "pile", "[I", true)
  | 28 => ("NightColanderModel", "pileAt", "[I", true)
  | 29 => ("NightColanderModel", "piled", "I", false)
  | 30 => ("NightColanderModel", "opened", "I", false)
  | 31 => ("NightColanderModel", "words", "[J", true)
  | 32 => ("NightColanderModel", "orderWords", "[J", true)
  | 33 => ("NightColanderModel", "heads", "[J", true)
  | 34 => ("NightColanderModel", "law", "I", false)
  | 35 => ("NightColanderModel", "set", "[J", true)
  | 36 => ("NightColanderModel", "now", "[J", true)
  | 37 => ("NightColanderModel", "rest", "[J", true)
  | 38 => ("NightColanderModel", "broken", "Z", false)
  | 39 => ("NightColanderModel", "value", "J", false)
  | 40 => ("NightColanderModel", "sum", "J", false)
  | 41 => ("NightColanderModel", "flowing", "[I", true)
  | 42 => ("NightColanderModel", "caughtAt", "[I", true)
  | 43 => ("NightColanderModel", "tried", "[I", true)
  | 44 => ("NightColanderModel", "bestRow", "[I", true)
  | 45 => ("NightColanderModel", "falls", "[I", true)
  | 46 => ("NightColanderModel", "alike", "[I", true)
  | 47 => ("NightColanderModel", "parts", "[J", true)
  | 48 => ("NightColanderModel", "acts", "[J", true)
  | 49 => ("NightColanderModel", "nOrder", "[I", true)
  | 50 => ("NightColanderModel", "done", "I", false)
  | 51 => ("NightColanderModel", "latest", "I", false)
  | 52 => ("NightColanderModel", "stopped", "I", false)
  | 53 => ("NightColanderModel", "off", "Z", false)
  | 54 => ("NightColanderModel", "state", "J", false)
  | 55 => ("NightColanderModel", "drawn", "[I", true)
  | _ => ("NightColanderModel", "drawnBuckets", "I", false)
def zty_11 : Nat → FieldType := fun k => match k with
  | 0 => .int
  | 1 => .int
  | 2 => .array .int
  | 3 => .array .int
  | 4 => .array .int
  | 5 => .array .boolean
  | 6 => .array .int
  | 7 => .array .int
  | 8 => .int
  | 9 => .array .int
  | 10 => .array .int
  | 11 => .int
  | 12 => .array .int
  | 13 => .int
  | 14 => .int
  | 15 => .int
  | 16 => .int
  | 17 => .long
  | 18 => .int
  | 19 => .boolean
  | 20 => .boolean
  | 21 => .int
  | 22 => .array .int
  | 23 => .int
  | 24 => .array .int
  | 25 => .array .int
  | 26 => .int
  | 27 => .array .int
  | 28 => .array .int
  | 29 => .int
  | 30 => .int
  | 31 => .array .long
  | 32 => .array .long
  | 33 => .array .long
  | 34 => .int
  | 35 => .array .long
  | 36 => .array .long
  | 37 => .array .long
  | 38 => .boolean
  | 39 => .long
  | 40 => .long
  | 41 => .array .int
  | 42 => .array .int
  | 43 => .array .int
  | 44 => .array .int
  | 45 => .array .int
  | 46 => .array .int
  | 47 => .array .long
  | 48 => .array .long
  | 49 => .array .int
  | 50 => .int
  | 51 => .int
  | 52 => .int
  | 53 => .boolean
  | 54 => .long
  | 55 => .array .int
  | _ => .int
theorem znm_11 : ∀ a, a < 57 → ∀ b, b < 57 → a ≠ b → (zT_11 a).2.1 ≠ (zT_11 b).2.1 := by decide +kernel
theorem zok_11 : ∀ k, k < 57 → parseFieldDescriptor (zT_11 k).2.2.1 = some (zty_11 k) := by decide +kernel
abbrev zCL : List vw_C := [(zR0, zT_0, 1), (zR1, zT_1, 2), (zR2, zT_2, 1), (zR3, zT_3, 15), (zR4, zT_4, 10), (zR5, zT_5, 4), (zR6, zT_6, 2), (zR7, zT_7, 6), (zR8, zT_8, 6), (zR9, zT_9, 7), (zR10, zT_10, 19), (zR11, zT_11, 57)]
def zTB : List Cond := lw_tbl.filter goodWord
theorem zm_1 {w : Cond} (h : w ∈ tables_1_1) : w ∈ lw_tbl := List.mem_append_right _ (List.mem_append_left _ h)
theorem zm_2 {w : Cond} (h : w ∈ tables_1_2) : w ∈ lw_tbl := List.mem_append_right _ (List.mem_append_right _ (List.mem_append_left _ h))
theorem zm_3 {w : Cond} (h : w ∈ tables_1_3) : w ∈ lw_tbl := List.mem_append_right _ (List.mem_append_right _ (List.mem_append_right _ (List.mem_append_left _ h)))
theorem zm_4 {w : Cond} (h : w ∈ tables_1_4) : w ∈ lw_tbl := List.mem_append_right _ (List.mem_append_right _ (List.mem_append_right _ (List.mem_append_right _ (List.mem_append_left _ h))))
theorem zm_5 {w : Cond} (h : w ∈ tables_1_5) : w ∈ lw_tbl := List.mem_append_right _ (List.mem_append_right _ (List.mem_append_right _ (List.mem_append_right _ (List.mem_append_right _ (List.mem_append_left _ h)))))
theorem zm_6 {w : Cond} (h : w ∈ tables_1_6) : w ∈ lw_tbl := List.mem_append_right _ (List.mem_append_right _ (List.mem_append_right _ (List.mem_append_right _ (List.mem_append_right _ (List.mem_append_right _ (List.mem_append_left _ h))))))
theorem zm_7 {w : Cond} (h : w ∈ tables_1_7) : w ∈ lw_tbl := List.mem_append_right _ (List.mem_append_right _ (List.mem_append_right _ (List.mem_append_right _ (List.mem_append_right _ (List.mem_append_right _ (List.mem_append_right _ (List.mem_append_left _ h)))))))
theorem zm_8 {w : Cond} (h : w ∈ tables_1_8) : w ∈ lw_tbl := List.mem_append_right _ (List.mem_append_right _ (List.mem_append_right _ (List.mem_append_right _ (List.mem_append_right _ (List.mem_append_right _ (List.mem_append_right _ (List.mem_append_right _ (h))))))))
theorem tw_259 : (.laysFinal "NightColander$Deeds" "NightColander$Deeds" "judge" "LNightColander$Judge;" : Cond) ∈ zTB := List.mem_filter.mpr ⟨zm_2 (List.mem_of_getElem? (i := 19) rfl), rfl⟩
theorem zin_0 : ∀ w ∈ u_ws zR0 zT_0 1, w ∈ zTB := by
  intro w hw
  obtain ⟨j, hj, rfl⟩ := List.mem_map.mp hw
  have hj := List.mem_range.mp hj
  match j, hj with
  | 0, _ => exact tw_259
  | j + 1, h => exact absurd h (by omega)
theorem tw_247 : (.laysFinal "NightColander$Judge" "NightColander$Judge" "machine" "LNightColander$Machine;" : Cond) ∈ zTB := List.mem_filter.mpr ⟨zm_2 (List.mem_of_getElem? (i := 7) rfl), rfl⟩
theorem tw_249 : (.laysFinal "NightColander$Judge" "NightColander$Judge" "words" "[I" : Cond) ∈ zTB := List.mem_filter.mpr ⟨zm_2 (List.mem_of_getElem? (i := 9) rfl), rfl⟩
theorem zin_1 : ∀ w ∈ u_ws zR1 zT_1 2, w ∈ zTB := by
  intro w hw
  obtain ⟨j, hj, rfl⟩ := List.mem_map.mp hw
  have hj := List.mem_range.mp hj
  match j, hj with
  | 0, _ => exact tw_247
  | 1, _ => exact tw_249
  | j + 2, h => exact absurd h (by omega)
theorem tw_242 : (.laysFinal "NightColander$Machine" "NightColander$Machine" "stack" "[I" : Cond) ∈ zTB := List.mem_filter.mpr ⟨zm_2 (List.mem_of_getElem? (i := 2) rfl), rfl⟩
theorem zin_2 : ∀ w ∈ u_ws zR2 zT_2 1, w ∈ zTB := by
  intro w hw
  obtain ⟨j, hj, rfl⟩ := List.mem_map.mp hw
  have hj := List.mem_range.mp hj
  match j, hj with
  | 0, _ => exact tw_242
  | j + 1, h => exact absurd h (by omega)
theorem tw_98 : (.laysFinal "NightColander$Night" "NightColander$Night" "bores" "[I" : Cond) ∈ zTB := List.mem_filter.mpr ⟨zm_1 (List.mem_of_getElem? (i := 98) rfl), rfl⟩
theorem tw_100 : (.laysFinal "NightColander$Night" "NightColander$Night" "blocked" "[Z" : Cond) ∈ zTB := List.mem_filter.mpr ⟨zm_1 (List.mem_of_getElem? (i := 100) rfl), rfl⟩
theorem tw_102 : (.laysFinal "NightColander$Night" "NightColander$Night" "turns" "[I" : Cond) ∈ zTB := List.mem_filter.mpr ⟨zm_1 (List.mem_of_getElem? (i := 102) rfl), rfl⟩
theorem tw_104 : (.laysFinal "NightColander$Night" "NightColander$Night" "sizes" "[I" : Cond) ∈ zTB := List.mem_filter.mpr ⟨zm_1 (List.mem_of_getElem? (i := 104) rfl), rfl⟩
theorem tw_106 : (.laysFinal "NightColander$Night" "NightColander$Night" "levels" "[I" : Cond) ∈ zTB := List.mem_filter.mpr ⟨zm_1 (List.mem_of_getElem? (i := 106) rfl), rfl⟩
theorem tw_108 : (.laysFinal "NightColander$Night" "NightColander$Night" "fields" "[I" : Cond) ∈ zTB := List.mem_filter.mpr ⟨zm_1 (List.mem_of_getElem? (i := 108) rfl), rfl⟩
theorem tw_110 : (.laysFinal "NightColander$Night" "NightColander$Night" "wants" "[I" : Cond) ∈ zTB := List.mem_filter.mpr ⟨zm_1 (List.mem_of_getElem? (i := 110) rfl), rfl⟩
theorem tw_112 : (.laysFinal "NightColander$Night" "NightColander$Night" "seenFields" "[I" : Cond) ∈ zTB := List.mem_filter.mpr ⟨zm_1 (List.mem_of_getElem? (i := 112) rfl), rfl⟩
theorem tw_114 : (.laysFinal "NightColander$Night" "NightColander$Night" "seenThreads" "[I" : Cond) ∈ zTB := List.mem_filter.mpr ⟨zm_1 (List.mem_of_getElem? (i := 114) rfl), rfl⟩
theorem tw_116 : (.laysFinal "NightColander$Night" "NightColander$Night" "terms" "[I" : Cond) ∈ zTB := List.mem_filter.mpr ⟨zm_1 (List.mem_of_getElem? (i := 116) rfl), rfl⟩
theorem tw_118 : (.laysFinal "NightColander$Night" "NightColander$Night" "laws" "[LNightColander$Text;" : Cond) ∈ zTB := List.mem_filter.mpr ⟨zm_1 (List.mem_of_getElem? (i := 118) rfl), rfl⟩
theorem tw_120 : (.lays "NightColander$Night" "NightColander$Night" "bucketCount" "I" : Cond) ∈ zTB := List.mem_filter.mpr ⟨zm_1 (List.mem_of_getElem? (i := 120) rfl), rfl⟩
theorem tw_122 : (.lays "NightColander$Night" "NightColander$Night" "seenCount" "I" : Cond) ∈ zTB := List.mem_filter.mpr ⟨zm_1 (List.mem_of_getElem? (i := 122) rfl), rfl⟩
theorem tw_124 : (.lays "NightColander$Night" "NightColander$Night" "lawCount" "I" : Cond) ∈ zTB := List.mem_filter.mpr ⟨zm_1 (List.mem_of_getElem? (i := 124) rfl), rfl⟩
theorem tw_126 : (.lays "NightColander$Night" "NightColander$Night" "inForce" "I" : Cond) ∈ zTB := List.mem_filter.mpr ⟨zm_1 (List.mem_of_getElem? (i := 126) rfl), rfl⟩
theorem zin_3 : ∀ w ∈ u_ws zR3 zT_3 15, w ∈ zTB := by
  intro w hw
  obtain ⟨j, hj, rfl⟩ := List.mem_map.mp hw
  have hj := List.mem_range.mp hj
  match j, hj with
  | 0, _ => exact tw_98
  | 1, _ => exact tw_100
  | 2, _ => exact tw_102
  | 3, _ => exact tw_104
  | 4, _ => exact tw_106
  | 5, _ => exact tw_108
  | 6, _ => exact tw_110
  | 7, _ => exact tw_112
  | 8, _ => exact tw_114
  | 9, _ => exact tw_116
  | 10, _ => exact tw_118
  | 11, _ => exact tw_120
  | 12, _ => exact tw_122
  | 13, _ => exact tw_124
  | 14, _ => exact tw_126
  | j + 15, h => exact absurd h (by omega)
theorem tw_310 : (.laysFinal "NightColander$Paper" "NightColander$Paper" "judge" "LNightColander$Judge;" : Cond) ∈ zTB := List.mem_filter.mpr ⟨zm_2 (List.mem_of_getElem? (i := 70) rfl), rfl⟩
theorem tw_312 : (.laysFinal "NightColander$Paper" "NightColander$Paper" "sketch" "LNightColander$Night;" : Cond) ∈ zTB := List.mem_filter.mpr ⟨zm_2 (List.mem_of_getElem? (i := 72) rfl), rfl⟩
theorem tw_314 : (.laysFinal "NightColander$Paper" "NightColander$Paper" "shares" "[I" : Cond) ∈ zTB := List.mem_filter.mpr ⟨zm_2 (List.mem_of_getElem? (i := 74) rfl), rfl⟩
theorem tw_316 : (.laysFinal "NightColander$Paper" "NightColander$Paper" "falls" "[I" : Cond) ∈ zTB := List.mem_filter.mpr ⟨zm_2 (List.mem_of_getElem? (i := 76) rfl), rfl⟩
theorem tw_318 : (.laysFinal "NightColander$Paper" "NightColander$Paper" "catches" "[I" : Cond) ∈ zTB := List.mem_filter.mpr ⟨zm_2 (List.mem_of_getElem? (i := 78) rfl), rfl⟩
theorem tw_320 : (.laysFinal "NightColander$Paper" "NightColander$Paper" "fitting" "[I" : Cond) ∈ zTB := List.mem_filter.mpr ⟨zm_2 (List.mem_of_getElem? (i := 80) rfl), rfl⟩
theorem tw_322 : (.laysFinal "NightColander$Paper" "NightColander$Paper" "tally" "[I" : Cond) ∈ zTB := List.mem_filter.mpr ⟨zm_2 (List.mem_of_getElem? (i := 82) rfl), rfl⟩
theorem tw_324 : (.laysFinal "NightColander$Paper" "NightColander$Paper" "chances" "[J" : Cond) ∈ zTB := List.mem_filter.mpr ⟨zm_2 (List.mem_of_getElem? (i := 84) rfl), rfl⟩
theorem tw_326 : (.lays "NightColander$Paper" "NightColander$Paper" "best" "I" : Cond) ∈ zTB := List.mem_filter.mpr ⟨zm_2 (List.mem_of_getElem? (i := 86) rfl), rfl⟩
theorem tw_328 : (.lays "NightColander$Paper" "NightColander$Paper" "choice" "I" : Cond) ∈ zTB := List.mem_filter.mpr ⟨zm_2 (List.mem_of_getElem? (i := 88) rfl), rfl⟩
theorem zin_4 : ∀ w ∈ u_ws zR4 zT_4 10, w ∈ zTB := by
  intro w hw
  obtain ⟨j, hj, rfl⟩ := List.mem_map.mp hw
  have hj := List.mem_range.mp hj
  match j, hj with
  | 0, _ => exact tw_310
  | 1, _ => exact tw_312
  | 2, _ => exact tw_314
  | 3, _ => exact tw_316
  | 4, _ => exact tw_318
  | 5, _ => exact tw_320
  | 6, _ => exact tw_322
  | 7, _ => exact tw_324
  | 8, _ => exact tw_326
  | 9, _ => exact tw_328
  | j + 10, h => exact absurd h (by omega)
theorem tw_220 : (.laysFinal "NightColander$Parser" "NightColander$Parser" "text" "LNightColander$Text;" : Cond) ∈ zTB := List.mem_filter.mpr ⟨zm_1 (List.mem_of_getElem? (i := 220) rfl), rfl⟩
theorem tw_222 : (.laysFinal "NightColander$Parser" "NightColander$Parser" "tape" "LNightColander$Tape;" : Cond) ∈ zTB := List.mem_filter.mpr ⟨zm_1 (List.mem_of_getElem? (i := 222) rfl), rfl⟩
theorem tw_224 : (.lays "NightColander$Parser" "NightColander$Parser" "ordering" "Z" : Cond) ∈ zTB := List.mem_filter.mpr ⟨zm_1 (List.mem_of_getElem? (i := 224) rfl), rfl⟩
theorem tw_226 : (.lays "NightColander$Parser" "NightColander$Parser" "parts" "I" : Cond) ∈ zTB := List.mem_filter.mpr ⟨zm_1 (List.mem_of_getElem? (i := 226) rfl), rfl⟩
theorem zin_5 : ∀ w ∈ u_ws zR5 zT_5 4, w ∈ zTB := by
  intro w hw
  obtain ⟨j, hj, rfl⟩ := List.mem_map.mp hw
  have hj := List.mem_range.mp hj
  match j, hj with
  | 0, _ => exact tw_220
  | 1, _ => exact tw_222
  | 2, _ => exact tw_224
  | 3, _ => exact tw_226
  | j + 4, h => exact absurd h (by omega)
theorem tw_141 : (.laysFinal "NightColander$Past" "NightColander$Past" "rows" "[I" : Cond) ∈ zTB := List.mem_filter.mpr ⟨zm_1 (List.mem_of_getElem? (i := 141) rfl), rfl⟩
theorem tw_143 : (.lays "NightColander$Past" "NightColander$Past" "kept" "I" : Cond) ∈ zTB := List.mem_filter.mpr ⟨zm_1 (List.mem_of_getElem? (i := 143) rfl), rfl⟩
theorem zin_6 : ∀ w ∈ u_ws zR6 zT_6 2, w ∈ zTB := by
  intro w hw
  obtain ⟨j, hj, rfl⟩ := List.mem_map.mp hw
  have hj := List.mem_range.mp hj
  match j, hj with
  | 0, _ => exact tw_141
  | 1, _ => exact tw_143
  | j + 2, h => exact absurd h (by omega)
theorem tw_277 : (.laysFinal "NightColander$Runner" "NightColander$Runner" "judge" "LNightColander$Judge;" : Cond) ∈ zTB := List.mem_filter.mpr ⟨zm_2 (List.mem_of_getElem? (i := 37) rfl), rfl⟩
theorem tw_279 : (.laysFinal "NightColander$Runner" "NightColander$Runner" "deeds" "LNightColander$Deeds;" : Cond) ∈ zTB := List.mem_filter.mpr ⟨zm_2 (List.mem_of_getElem? (i := 39) rfl), rfl⟩
theorem tw_281 : (.laysFinal "NightColander$Runner" "NightColander$Runner" "machine" "LNightColander$Machine;" : Cond) ∈ zTB := List.mem_filter.mpr ⟨zm_2 (List.mem_of_getElem? (i := 41) rfl), rfl⟩
theorem tw_283 : (.laysFinal "NightColander$Runner" "NightColander$Runner" "words" "[I" : Cond) ∈ zTB := List.mem_filter.mpr ⟨zm_2 (List.mem_of_getElem? (i := 43) rfl), rfl⟩
theorem tw_285 : (.lays "NightColander$Runner" "NightColander$Runner" "done" "I" : Cond) ∈ zTB := List.mem_filter.mpr ⟨zm_2 (List.mem_of_getElem? (i := 45) rfl), rfl⟩
theorem tw_287 : (.lays "NightColander$Runner" "NightColander$Runner" "latest" "I" : Cond) ∈ zTB := List.mem_filter.mpr ⟨zm_2 (List.mem_of_getElem? (i := 47) rfl), rfl⟩
theorem zin_7 : ∀ w ∈ u_ws zR7 zT_7 6, w ∈ zTB := by
  intro w hw
  obtain ⟨j, hj, rfl⟩ := List.mem_map.mp hw
  have hj := List.mem_range.mp hj
  match j, hj with
  | 0, _ => exact tw_277
  | 1, _ => exact tw_279
  | 2, _ => exact tw_281
  | 3, _ => exact tw_283
  | 4, _ => exact tw_285
  | 5, _ => exact tw_287
  | j + 6, h => exact absurd h (by omega)
theorem tw_159 : (.laysFinal "NightColander$Tape" "NightColander$Tape" "bytes" "[B" : Cond) ∈ zTB := List.mem_filter.mpr ⟨zm_1 (List.mem_of_getElem? (i := 159) rfl), rfl⟩
theorem tw_161 : (.lays "NightColander$Tape" "NightColander$Tape" "length" "I" : Cond) ∈ zTB := List.mem_filter.mpr ⟨zm_1 (List.mem_of_getElem? (i := 161) rfl), rfl⟩
theorem tw_163 : (.lays "NightColander$Tape" "NightColander$Tape" "kind" "I" : Cond) ∈ zTB := List.mem_filter.mpr ⟨zm_1 (List.mem_of_getElem? (i := 163) rfl), rfl⟩
theorem tw_165 : (.lays "NightColander$Tape" "NightColander$Tape" "start" "I" : Cond) ∈ zTB := List.mem_filter.mpr ⟨zm_1 (List.mem_of_getElem? (i := 165) rfl), rfl⟩
theorem tw_167 : (.lays "NightColander$Tape" "NightColander$Tape" "behind" "I" : Cond) ∈ zTB := List.mem_filter.mpr ⟨zm_1 (List.mem_of_getElem? (i := 167) rfl), rfl⟩
theorem tw_169 : (.lays "NightColander$Tape" "NightColander$Tape" "value" "I" : Cond) ∈ zTB := List.mem_filter.mpr ⟨zm_1 (List.mem_of_getElem? (i := 169) rfl), rfl⟩
theorem zin_8 : ∀ w ∈ u_ws zR8 zT_8 6, w ∈ zTB := by
  intro w hw
  obtain ⟨j, hj, rfl⟩ := List.mem_map.mp hw
  have hj := List.mem_range.mp hj
  match j, hj with
  | 0, _ => exact tw_159
  | 1, _ => exact tw_161
  | 2, _ => exact tw_163
  | 3, _ => exact tw_165
  | 4, _ => exact tw_167
  | 5, _ => exact tw_169
  | j + 6, h => exact absurd h (by omega)
theorem tw_200 : (.laysFinal "NightColander$Text" "NightColander$Text" "steps" "[I" : Cond) ∈ zTB := List.mem_filter.mpr ⟨zm_1 (List.mem_of_getElem? (i := 200) rfl), rfl⟩
theorem tw_202 : (.laysFinal "NightColander$Text" "NightColander$Text" "kinds" "[I" : Cond) ∈ zTB := List.mem_filter.mpr ⟨zm_1 (List.mem_of_getElem? (i := 202) rfl), rfl⟩
theorem tw_204 : (.laysFinal "NightColander$Text" "NightColander$Text" "times" "[I" : Cond) ∈ zTB := List.mem_filter.mpr ⟨zm_1 (List.mem_of_getElem? (i := 204) rfl), rfl⟩
theorem tw_206 : (.laysFinal "NightColander$Text" "NightColander$Text" "words" "[I" : Cond) ∈ zTB := List.mem_filter.mpr ⟨zm_1 (List.mem_of_getElem? (i := 206) rfl), rfl⟩
theorem tw_208 : (.laysFinal "NightColander$Text" "NightColander$Text" "marks" "[I" : Cond) ∈ zTB := List.mem_filter.mpr ⟨zm_1 (List.mem_of_getElem? (i := 208) rfl), rfl⟩
theorem tw_210 : (.lays "NightColander$Text" "NightColander$Text" "length" "I" : Cond) ∈ zTB := List.mem_filter.mpr ⟨zm_1 (List.mem_of_getElem? (i := 210) rfl), rfl⟩
theorem tw_212 : (.lays "NightColander$Text" "NightColander$Text" "clauses" "I" : Cond) ∈ zTB := List.mem_filter.mpr ⟨zm_1 (List.mem_of_getElem? (i := 212) rfl), rfl⟩
theorem zin_9 : ∀ w ∈ u_ws zR9 zT_9 7, w ∈ zTB := by
  intro w hw
  obtain ⟨j, hj, rfl⟩ := List.mem_map.mp hw
  have hj := List.mem_range.mp hj
  match j, hj with
  | 0, _ => exact tw_200
  | 1, _ => exact tw_202
  | 2, _ => exact tw_204
  | 3, _ => exact tw_206
  | 4, _ => exact tw_208
  | 5, _ => exact tw_210
  | 6, _ => exact tw_212
  | j + 7, h => exact absurd h (by omega)
theorem tw_351 : (.laysFinal "NightColander" "NightColander" "now" "LNightColander$Night;" : Cond) ∈ zTB := List.mem_filter.mpr ⟨zm_2 (List.mem_of_getElem? (i := 111) rfl), rfl⟩
theorem tw_353 : (.laysFinal "NightColander" "NightColander" "images" "[LNightColander$Night;" : Cond) ∈ zTB := List.mem_filter.mpr ⟨zm_2 (List.mem_of_getElem? (i := 113) rfl), rfl⟩
theorem tw_355 : (.laysFinal "NightColander" "NightColander" "imageKept" "[Z" : Cond) ∈ zTB := List.mem_filter.mpr ⟨zm_2 (List.mem_of_getElem? (i := 115) rfl), rfl⟩
theorem tw_357 : (.laysFinal "NightColander" "NightColander" "yearsNight" "LNightColander$Night;" : Cond) ∈ zTB := List.mem_filter.mpr ⟨zm_2 (List.mem_of_getElem? (i := 117) rfl), rfl⟩
theorem tw_359 : (.laysFinal "NightColander" "NightColander" "aheadNight" "LNightColander$Night;" : Cond) ∈ zTB := List.mem_filter.mpr ⟨zm_2 (List.mem_of_getElem? (i := 119) rfl), rfl⟩
theorem tw_361 : (.laysFinal "NightColander" "NightColander" "past" "LNightColander$Past;" : Cond) ∈ zTB := List.mem_filter.mpr ⟨zm_2 (List.mem_of_getElem? (i := 121) rfl), rfl⟩
theorem tw_363 : (.laysFinal "NightColander" "NightColander" "aheadPast" "LNightColander$Past;" : Cond) ∈ zTB := List.mem_filter.mpr ⟨zm_2 (List.mem_of_getElem? (i := 123) rfl), rfl⟩
theorem tw_365 : (.laysFinal "NightColander" "NightColander" "tape" "LNightColander$Tape;" : Cond) ∈ zTB := List.mem_filter.mpr ⟨zm_2 (List.mem_of_getElem? (i := 125) rfl), rfl⟩
theorem tw_367 : (.laysFinal "NightColander" "NightColander" "parser" "LNightColander$Parser;" : Cond) ∈ zTB := List.mem_filter.mpr ⟨zm_2 (List.mem_of_getElem? (i := 127) rfl), rfl⟩
theorem tw_369 : (.laysFinal "NightColander" "NightColander" "judge" "LNightColander$Judge;" : Cond) ∈ zTB := List.mem_filter.mpr ⟨zm_2 (List.mem_of_getElem? (i := 129) rfl), rfl⟩
theorem tw_371 : (.laysFinal "NightColander" "NightColander" "deeds" "LNightColander$Deeds;" : Cond) ∈ zTB := List.mem_filter.mpr ⟨zm_2 (List.mem_of_getElem? (i := 131) rfl), rfl⟩
theorem tw_373 : (.laysFinal "NightColander" "NightColander" "runner" "LNightColander$Runner;" : Cond) ∈ zTB := List.mem_filter.mpr ⟨zm_2 (List.mem_of_getElem? (i := 133) rfl), rfl⟩
theorem tw_375 : (.laysFinal "NightColander" "NightColander" "paper" "LNightColander$Paper;" : Cond) ∈ zTB := List.mem_filter.mpr ⟨zm_2 (List.mem_of_getElem? (i := 135) rfl), rfl⟩
theorem tw_377 : (.laysFinal "NightColander" "NightColander" "refusals" "[I" : Cond) ∈ zTB := List.mem_filter.mpr ⟨zm_2 (List.mem_of_getElem? (i := 137) rfl), rfl⟩
theorem tw_379 : (.lays "NightColander" "NightColander" "yearsKept" "Z" : Cond) ∈ zTB := List.mem_filter.mpr ⟨zm_2 (List.mem_of_getElem? (i := 139) rfl), rfl⟩
theorem tw_381 : (.lays "NightColander" "NightColander" "latestStatus" "I" : Cond) ∈ zTB := List.mem_filter.mpr ⟨zm_2 (List.mem_of_getElem? (i := 141) rfl), rfl⟩
theorem tw_383 : (.lays "NightColander" "NightColander" "latestPeas" "I" : Cond) ∈ zTB := List.mem_filter.mpr ⟨zm_2 (List.mem_of_getElem? (i := 143) rfl), rfl⟩
theorem tw_385 : (.lays "NightColander" "NightColander" "latestFault" "I" : Cond) ∈ zTB := List.mem_filter.mpr ⟨zm_2 (List.mem_of_getElem? (i := 145) rfl), rfl⟩
theorem tw_387 : (.lays "NightColander" "NightColander" "latestStop" "I" : Cond) ∈ zTB := List.mem_filter.mpr ⟨zm_2 (List.mem_of_getElem? (i := 147) rfl), rfl⟩
theorem zin_10 : ∀ w ∈ u_ws zR10 zT_10 19, w ∈ zTB := by
  intro w hw
  obtain ⟨j, hj, rfl⟩ := List.mem_map.mp hw
  have hj := List.mem_range.mp hj
  match j, hj with
  | 0, _ => exact tw_351
  | 1, _ => exact tw_353
  | 2, _ => exact tw_355
  | 3, _ => exact tw_357
  | 4, _ => exact tw_359
  | 5, _ => exact tw_361
  | 6, _ => exact tw_363
  | 7, _ => exact tw_365
  | 8, _ => exact tw_367
  | 9, _ => exact tw_369
  | 10, _ => exact tw_371
  | 11, _ => exact tw_373
  | 12, _ => exact tw_375
  | 13, _ => exact tw_377
  | 14, _ => exact tw_379
  | 15, _ => exact tw_381
  | 16, _ => exact tw_383
  | 17, _ => exact tw_385
  | 18, _ => exact tw_387
  | j + 19, h => exact absurd h (by omega)
theorem tw_1286 : (.lays "NightColanderModel" "NightColanderModel" "thrown" "I" : Cond) ∈ zTB := List.mem_filter.mpr ⟨zm_6 (List.mem_of_getElem? (i := 86) rfl), rfl⟩
theorem tw_1288 : (.lays "NightColanderModel" "NightColanderModel" "status" "I" : Cond) ∈ zTB := List.mem_filter.mpr ⟨zm_6 (List.mem_of_getElem? (i := 88) rfl), rfl⟩
theorem tw_1290 : (.laysFinal "NightColanderModel" "NightColanderModel" "refusals" "[I" : Cond) ∈ zTB := List.mem_filter.mpr ⟨zm_6 (List.mem_of_getElem? (i := 90) rfl), rfl⟩
theorem tw_1292 : (.laysFinal "NightColanderModel" "NightColanderModel" "row" "[I" : Cond) ∈ zTB := List.mem_filter.mpr ⟨zm_6 (List.mem_of_getElem? (i := 92) rfl), rfl⟩
theorem tw_1294 : (.laysFinal "NightColanderModel" "NightColanderModel" "images" "[I" : Cond) ∈ zTB := List.mem_filter.mpr ⟨zm_6 (List.mem_of_getElem? (i := 94) rfl), rfl⟩
theorem tw_1296 : (.laysFinal "NightColanderModel" "NightColanderModel" "isKept" "[Z" : Cond) ∈ zTB := List.mem_filter.mpr ⟨zm_6 (List.mem_of_getElem? (i := 96) rfl), rfl⟩
theorem tw_1298 : (.laysFinal "NightColanderModel" "NightColanderModel" "undos" "[I" : Cond) ∈ zTB := List.mem_filter.mpr ⟨zm_6 (List.mem_of_getElem? (i := 98) rfl), rfl⟩
theorem tw_1300 : (.laysFinal "NightColanderModel" "NightColanderModel" "sorts" "[I" : Cond) ∈ zTB := List.mem_filter.mpr ⟨zm_6 (List.mem_of_getElem? (i := 100) rfl), rfl⟩
theorem tw_1302 : (.lays "NightColanderModel" "NightColanderModel" "nUndo" "I" : Cond) ∈ zTB := List.mem_filter.mpr ⟨zm_6 (List.mem_of_getElem? (i := 102) rfl), rfl⟩
theorem tw_1304 : (.laysFinal "NightColanderModel" "NightColanderModel" "undosBefore" "[I" : Cond) ∈ zTB := List.mem_filter.mpr ⟨zm_6 (List.mem_of_getElem? (i := 104) rfl), rfl⟩
theorem tw_1306 : (.laysFinal "NightColanderModel" "NightColanderModel" "sortsBefore" "[I" : Cond) ∈ zTB := List.mem_filter.mpr ⟨zm_6 (List.mem_of_getElem? (i := 106) rfl), rfl⟩
theorem tw_1308 : (.lays "NightColanderModel" "NightColanderModel" "peas" "I" : Cond) ∈ zTB := List.mem_filter.mpr ⟨zm_6 (List.mem_of_getElem? (i := 108) rfl), rfl⟩
theorem tw_1310 : (.laysFinal "NightColanderModel" "NightColanderModel" "tape" "[I" : Cond) ∈ zTB := List.mem_filter.mpr ⟨zm_6 (List.mem_of_getElem? (i := 110) rfl), rfl⟩
theorem tw_1312 : (.lays "NightColanderModel" "NightColanderModel" "taped" "I" : Cond) ∈ zTB := List.mem_filter.mpr ⟨zm_6 (List.mem_of_getElem? (i := 112) rfl), rfl⟩
theorem tw_1314 : (.lays "NightColanderModel" "NightColanderModel" "from" "I" : Cond) ∈ zTB := List.mem_filter.mpr ⟨zm_6 (List.mem_of_getElem? (i := 114) rfl), rfl⟩
theorem tw_1316 : (.lays "NightColanderModel" "NightColanderModel" "to" "I" : Cond) ∈ zTB := List.mem_filter.mpr ⟨zm_6 (List.mem_of_getElem? (i := 116) rfl), rfl⟩
theorem tw_1318 : (.lays "NightColanderModel" "NightColanderModel" "sort" "I" : Cond) ∈ zTB := List.mem_filter.mpr ⟨zm_6 (List.mem_of_getElem? (i := 118) rfl), rfl⟩
theorem tw_1320 : (.lays "NightColanderModel" "NightColanderModel" "worth" "J" : Cond) ∈ zTB := List.mem_filter.mpr ⟨zm_6 (List.mem_of_getElem? (i := 120) rfl), rfl⟩
theorem tw_1322 : (.lays "NightColanderModel" "NightColanderModel" "fault" "I" : Cond) ∈ zTB := List.mem_filter.mpr ⟨zm_6 (List.mem_of_getElem? (i := 122) rfl), rfl⟩
theorem tw_1324 : (.lays "NightColanderModel" "NightColanderModel" "bad" "Z" : Cond) ∈ zTB := List.mem_filter.mpr ⟨zm_6 (List.mem_of_getElem? (i := 124) rfl), rfl⟩
theorem tw_1326 : (.lays "NightColanderModel" "NightColanderModel" "ordered" "Z" : Cond) ∈ zTB := List.mem_filter.mpr ⟨zm_6 (List.mem_of_getElem? (i := 126) rfl), rfl⟩
theorem tw_1328 : (.lays "NightColanderModel" "NightColanderModel" "nClauses" "I" : Cond) ∈ zTB := List.mem_filter.mpr ⟨zm_6 (List.mem_of_getElem? (i := 128) rfl), rfl⟩
theorem tw_1330 : (.laysFinal "NightColanderModel" "NightColanderModel" "nClause" "[I" : Cond) ∈ zTB := List.mem_filter.mpr ⟨zm_6 (List.mem_of_getElem? (i := 130) rfl), rfl⟩
theorem tw_1332 : (.lays "NightColanderModel" "NightColanderModel" "nCode" "I" : Cond) ∈ zTB := List.mem_filter.mpr ⟨zm_6 (List.mem_of_getElem? (i := 132) rfl), rfl⟩
theorem tw_1334 : (.laysFinal "NightColanderModel" "NightColanderModel" "nOp" "[I" : Cond) ∈ zTB := List.mem_filter.mpr ⟨zm_6 (List.mem_of_getElem? (i := 134) rfl), rfl⟩
theorem tw_1336 : (.laysFinal "NightColanderModel" "NightColanderModel" "nArg" "[I" : Cond) ∈ zTB := List.mem_filter.mpr ⟨zm_6 (List.mem_of_getElem? (i := 136) rfl), rfl⟩
theorem tw_1338 : (.lays "NightColanderModel" "NightColanderModel" "nLeaves" "I" : Cond) ∈ zTB := List.mem_filter.mpr ⟨zm_6 (List.mem_of_getElem? (i := 138) rfl), rfl⟩
theorem tw_1340 : (.laysFinal "NightColanderModel" "NightColanderModel" "pile" "[I" : Cond) ∈ zTB := List.mem_filter.mpr ⟨zm_6 (List.mem_of_getElem? (i := 140) rfl), rfl⟩
theorem tw_1342 : (.laysFinal "NightColanderModel" "NightColanderModel" "pileAt" "[I" : Cond) ∈ zTB := List.mem_filter.mpr ⟨zm_6 (List.mem_of_getElem? (i := 142) rfl), rfl⟩
theorem tw_1344 : (.lays "NightColanderModel" "NightColanderModel" "piled" "I" : Cond) ∈ zTB := List.mem_filter.mpr ⟨zm_6 (List.mem_of_getElem? (i := 144) rfl), rfl⟩
theorem tw_1346 : (.lays "NightColanderModel" "NightColanderModel" "opened" "I" : Cond) ∈ zTB := List.mem_filter.mpr ⟨zm_6 (List.mem_of_getElem? (i := 146) rfl), rfl⟩
theorem tw_1348 : (.laysFinal "NightColanderModel" "NightColanderModel" "words" "[J" : Cond) ∈ zTB := List.mem_filter.mpr ⟨zm_6 (List.mem_of_getElem? (i := 148) rfl), rfl⟩
theorem tw_1350 : (.laysFinal "NightColanderModel" "NightColanderModel" "orderWords" "[J" : Cond) ∈ zTB := List.mem_filter.mpr ⟨zm_6 (List.mem_of_getElem? (i := 150) rfl), rfl⟩
theorem tw_1352 : (.laysFinal "NightColanderModel" "NightColanderModel" "heads" "[J" : Cond) ∈ zTB := List.mem_filter.mpr ⟨zm_6 (List.mem_of_getElem? (i := 152) rfl), rfl⟩
theorem tw_1354 : (.lays "NightColanderModel" "NightColanderModel" "law" "I" : Cond) ∈ zTB := List.mem_filter.mpr ⟨zm_6 (List.mem_of_getElem? (i := 154) rfl), rfl⟩
theorem tw_1356 : (.laysFinal "NightColanderModel" "NightColanderModel" "set" "[J" : Cond) ∈ zTB := List.mem_filter.mpr ⟨zm_6 (List.mem_of_getElem? (i := 156) rfl), rfl⟩
theorem tw_1358 : (.laysFinal "NightColanderModel" "NightColanderModel" "now" "[J" : Cond) ∈ zTB := List.mem_filter.mpr ⟨zm_6 (List.mem_of_getElem? (i := 158) rfl), rfl⟩
theorem tw_1360 : (.laysFinal "NightColanderModel" "NightColanderModel" "rest" "[J" : Cond) ∈ zTB := List.mem_filter.mpr ⟨zm_6 (List.mem_of_getElem? (i := 160) rfl), rfl⟩
theorem tw_1362 : (.lays "NightColanderModel" "NightColanderModel" "broken" "Z" : Cond) ∈ zTB := List.mem_filter.mpr ⟨zm_6 (List.mem_of_getElem? (i := 162) rfl), rfl⟩
theorem tw_1364 : (.lays "NightColanderModel" "NightColanderModel" "value" "J" : Cond) ∈ zTB := List.mem_filter.mpr ⟨zm_6 (List.mem_of_getElem? (i := 164) rfl), rfl⟩
theorem tw_1366 : (.lays "NightColanderModel" "NightColanderModel" "sum" "J" : Cond) ∈ zTB := List.mem_filter.mpr ⟨zm_6 (List.mem_of_getElem? (i := 166) rfl), rfl⟩
theorem tw_1368 : (.laysFinal "NightColanderModel" "NightColanderModel" "flowing" "[I" : Cond) ∈ zTB := List.mem_filter.mpr ⟨zm_6 (List.mem_of_getElem? (i := 168) rfl), rfl⟩
theorem tw_1370 : (.laysFinal "NightColanderModel" "NightColanderModel" "caughtAt" "[I" : Cond) ∈ zTB := List.mem_filter.mpr ⟨zm_6 (List.mem_of_getElem? (i := 170) rfl), rfl⟩
theorem tw_1372 : (.laysFinal "NightColanderModel" "NightColanderModel" "tried" "[I" : Cond) ∈ zTB := List.mem_filter.mpr ⟨zm_6 (List.mem_of_getElem? (i := 172) rfl), rfl⟩
theorem tw_1374 : (.laysFinal "NightColanderModel" "NightColanderModel" "bestRow" "[I" : Cond) ∈ zTB := List.mem_filter.mpr ⟨zm_6 (List.mem_of_getElem? (i := 174) rfl), rfl⟩
theorem tw_1376 : (.laysFinal "NightColanderModel" "NightColanderModel" "falls" "[I" : Cond) ∈ zTB := List.mem_filter.mpr ⟨zm_6 (List.mem_of_getElem? (i := 176) rfl), rfl⟩
theorem tw_1378 : (.laysFinal "NightColanderModel" "NightColanderModel" "alike" "[I" : Cond) ∈ zTB := List.mem_filter.mpr ⟨zm_6 (List.mem_of_getElem? (i := 178) rfl), rfl⟩
theorem tw_1380 : (.laysFinal "NightColanderModel" "NightColanderModel" "parts" "[J" : Cond) ∈ zTB := List.mem_filter.mpr ⟨zm_6 (List.mem_of_getElem? (i := 180) rfl), rfl⟩
theorem tw_1382 : (.laysFinal "NightColanderModel" "NightColanderModel" "acts" "[J" : Cond) ∈ zTB := List.mem_filter.mpr ⟨zm_6 (List.mem_of_getElem? (i := 182) rfl), rfl⟩
theorem tw_1384 : (.laysFinal "NightColanderModel" "NightColanderModel" "nOrder" "[I" : Cond) ∈ zTB := List.mem_filter.mpr ⟨zm_6 (List.mem_of_getElem? (i := 184) rfl), rfl⟩
theorem tw_1386 : (.lays "NightColanderModel" "NightColanderModel" "done" "I" : Cond) ∈ zTB := List.mem_filter.mpr ⟨zm_6 (List.mem_of_getElem? (i := 186) rfl), rfl⟩
theorem tw_1388 : (.lays "NightColanderModel" "NightColanderModel" "latest" "I" : Cond) ∈ zTB := List.mem_filter.mpr ⟨zm_6 (List.mem_of_getElem? (i := 188) rfl), rfl⟩
theorem tw_1390 : (.lays "NightColanderModel" "NightColanderModel" "stopped" "I" : Cond) ∈ zTB := List.mem_filter.mpr ⟨zm_6 (List.mem_of_getElem? (i := 190) rfl), rfl⟩
theorem tw_1392 : (.lays "NightColanderModel" "NightColanderModel" "off" "Z" : Cond) ∈ zTB := List.mem_filter.mpr ⟨zm_6 (List.mem_of_getElem? (i := 192) rfl), rfl⟩
theorem tw_1394 : (.lays "NightColanderModel" "NightColanderModel" "state" "J" : Cond) ∈ zTB := List.mem_filter.mpr ⟨zm_6 (List.mem_of_getElem? (i := 194) rfl), rfl⟩
theorem tw_1396 : (.laysFinal "NightColanderModel" "NightColanderModel" "drawn" "[I" : Cond) ∈ zTB := List.mem_filter.mpr ⟨zm_6 (List.mem_of_getElem? (i := 196) rfl), rfl⟩
theorem tw_1398 : (.lays "NightColanderModel" "NightColanderModel" "drawnBuckets" "I" : Cond) ∈ zTB := List.mem_filter.mpr ⟨zm_6 (List.mem_of_getElem? (i := 198) rfl), rfl⟩
theorem zin_11 : ∀ w ∈ u_ws zR11 zT_11 57, w ∈ zTB := by
  intro w hw
  obtain ⟨j, hj, rfl⟩ := List.mem_map.mp hw
  have hj := List.mem_range.mp hj
  match j, hj with
  | 0, _ => exact tw_1286
  | 1, _ => exact tw_1288
  | 2, _ => exact tw_1290
  | 3, _ => exact tw_1292
  | 4, _ => exact tw_1294
  | 5, _ => exact tw_1296
  | 6, _ => exact tw_1298
  | 7, _ => exact tw_1300
  | 8, _ => exact tw_1302
  | 9, _ => exact tw_1304
  | 10, _ => exact tw_1306
  | 11, _ => exact tw_1308
  | 12, _ => exact tw_1310
  | 13, _ => exact tw_1312
  | 14, _ => exact tw_1314
  | 15, _ => exact tw_1316
  | 16, _ => exact tw_1318
  | 17, _ => exact tw_1320
  | 18, _ => exact tw_1322
  | 19, _ => exact tw_1324
  | 20, _ => exact tw_1326
  | 21, _ => exact tw_1328
  | 22, _ => exact tw_1330
  | 23, _ => exact tw_1332
  | 24, _ => exact tw_1334
  | 25, _ => exact tw_1336
  | 26, _ => exact tw_1338
  | 27, _ => exact tw_1340
  | 28, _ => exact tw_1342
  | 29, _ => exact tw_1344
  | 30, _ => exact tw_1346
  | 31, _ => exact tw_1348
  | 32, _ => exact tw_1350
  | 33, _ => exact tw_1352
  | 34, _ => exact tw_1354
  | 35, _ => exact tw_1356
  | 36, _ => exact tw_1358
  | 37, _ => exact tw_1360
  | 38, _ => exact tw_1362
  | 39, _ => exact tw_1364
  | 40, _ => exact tw_1366
  | 41, _ => exact tw_1368
  | 42, _ => exact tw_1370
  | 43, _ => exact tw_1372
  | 44, _ => exact tw_1374
  | 45, _ => exact tw_1376
  | 46, _ => exact tw_1378
  | 47, _ => exact tw_1380
  | 48, _ => exact tw_1382
  | 49, _ => exact tw_1384
  | 50, _ => exact tw_1386
  | 51, _ => exact tw_1388
  | 52, _ => exact tw_1390
  | 53, _ => exact tw_1392
  | 54, _ => exact tw_1394
  | 55, _ => exact tw_1396
  | 56, _ => exact tw_1398
  | j + 57, h => exact absurd h (by omega)
def zNest : List Cond := [.methodLinkNest "NightColander" 34 ⟨"NightColander$Past","<init>","()V"⟩ "NightColander", .methodLinkNest "NightColander" 44 ⟨"NightColander$Tape","<init>","()V"⟩ "NightColander", .methodLinkNest "NightColander" 60 ⟨"NightColander$Judge","<init>","()V"⟩ "NightColander", .methodLinkNest "NightColander$Judge" 11 ⟨"NightColander$Machine","<init>","()V"⟩ "NightColander", .methodLinkNest "NightColander$Runner" 11 ⟨"NightColander$Machine","<init>","()V"⟩ "NightColander", .methodLinkNest "NightColander$Night" 74 ⟨"NightColander","within","(III)Z"⟩ "NightColander", .methodLinkNest "NightColander$Tape" 60 ⟨"NightColander","within","(III)Z"⟩ "NightColander", .methodLinkNest "NightColander$Parser" 169 ⟨"NightColander","within","(III)Z"⟩ "NightColander", .methodLinkNest "NightColander$Text" 54 ⟨"NightColander","within","(III)Z"⟩ "NightColander", .methodLinkNest "NightColander$Deeds" 71 ⟨"NightColander","isHole","(I)Z"⟩ "NightColander", .methodLinkNest "NightColander$Deeds" 75 ⟨"NightColander","isRing","(I)Z"⟩ "NightColander", .methodLinkNest "NightColander$Deeds" 78 ⟨"NightColander","isField","(I)Z"⟩ "NightColander", .methodLinkNest "NightColander$Paper" 49 ⟨"NightColander","within","(III)Z"⟩ "NightColander"]
theorem zNest_form : ∀ w ∈ zNest, ∃ (a : String) (i : Nat) (x : MethodName) (h : String), w = .methodLinkNest a i x h := by
  intro w hw
  simp only [zNest, List.mem_cons, List.not_mem_nil, or_false] at hw
  rcases hw with rfl | rfl | rfl | rfl | rfl | rfl | rfl | rfl | rfl | rfl | rfl | rfl | rfl <;> exact ⟨_, _, _, _, rfl⟩
