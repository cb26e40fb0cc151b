def RX0 : String := "LaneDoors$Formula"
def TX0 : u_T := fun k => match k with
  | 0 => ("LaneDoors$Formula", "steps", "[I", true)
  | 1 => ("LaneDoors$Formula", "stack", "[I", true)
  | 2 => ("LaneDoors$Formula", "size", "I", false)
  | 3 => ("LaneDoors$Formula", "height", "I", false)
  | _ => ("LaneDoors$Formula", "units", "I", false)
def tyX0 : Nat → FieldType := fun k => match k with
  | 0 => .array .int
  | 1 => .array .int
  | 2 => .int
  | 3 => .int
  | _ => .int
theorem nmX0 : ∀ a, a < 5 → ∀ b, b < 5 → a ≠ b → (TX0 a).2.1 ≠ (TX0 b).2.1 := by decide +kernel
theorem tyX0_ok : ∀ k, k < 5 → parseFieldDescriptor (TX0 k).2.2.1 = some (tyX0 k) := by decide +kernel
def RX1 : String := "LaneDoors$Hearsay"
def TX1 : u_T := fun k => match k with
  | 0 => ("LaneDoors$Hearsay", "first", "[I", true)
  | 1 => ("LaneDoors$Hearsay", "second", "[I", true)
  | 2 => ("LaneDoors$Hearsay", "told", "[I", true)
  | 3 => ("LaneDoors$Hearsay", "untold", "[I", true)
  | 4 => ("LaneDoors$Hearsay", "count", "I", false)
  | _ => ("LaneDoors$Hearsay", "time", "I", false)
def tyX1 : Nat → FieldType := fun k => match k with
  | 0 => .array .int
  | 1 => .array .int
  | 2 => .array .int
  | 3 => .array .int
  | 4 => .int
  | _ => .int
theorem nmX1 : ∀ a, a < 6 → ∀ b, b < 6 → a ≠ b → (TX1 a).2.1 ≠ (TX1 b).2.1 := by decide +kernel
theorem tyX1_ok : ∀ k, k < 6 → parseFieldDescriptor (TX1 k).2.2.1 = some (tyX1 k) := by decide +kernel
def RX2 : String := "LaneDoors$History"
def TX2 : u_T := fun k => match k with
  | 0 => ("LaneDoors$History", "kept", "[LLaneDoors$State;", true)
  | 1 => ("LaneDoors$History", "first", "I", false)
  | 2 => ("LaneDoors$History", "done", "I", false)
  | _ => ("LaneDoors$History", "all", "I", false)
def tyX2 : Nat → FieldType := fun k => match k with
  | 0 => .array (.object "LaneDoors$State")
  | 1 => .int
  | 2 => .int
  | _ => .int
theorem nmX2 : ∀ a, a < 4 → ∀ b, b < 4 → a ≠ b → (TX2 a).2.1 ≠ (TX2 b).2.1 := by decide +kernel
theorem tyX2_ok : ∀ k, k < 4 → parseFieldDescriptor (TX2 k).2.2.1 = some (tyX2 k) := by decide +kernel
def RX3 : String := "LaneDoors$Lexer"
def TX3 : u_T := fun k => match k with
  | 0 => ("LaneDoors$Lexer", "tape", "LLaneDoors$Tape;", true)
  | 1 => ("LaneDoors$Lexer", "ownWords", "[J", true)
  | 2 => ("LaneDoors$Lexer", "next", "I", false)
  | 3 => ("LaneDoors$Lexer", "kind", "I", false)
  | 4 => ("LaneDoors$Lexer", "place", "I", false)
  | 5 => ("LaneDoors$Lexer", "number", "I", false)
  | _ => ("LaneDoors$Lexer", "word", "J", false)
def tyX3 : Nat → FieldType := fun k => match k with
  | 0 => .object "LaneDoors$Tape"
  | 1 => .array .long
  | 2 => .int
  | 3 => .int
  | 4 => .int
  | 5 => .int
  | _ => .long
theorem nmX3 : ∀ a, a < 7 → ∀ b, b < 7 → a ≠ b → (TX3 a).2.1 ≠ (TX3 b).2.1 := by decide +kernel
theorem tyX3_ok : ∀ k, k < 7 → parseFieldDescriptor (TX3 k).2.2.1 = some (tyX3 k) := by decide +kernel
def RX4 : String := "LaneDoors$Opener"
def TX4 : u_T := fun k => match k with
  | 0 => ("LaneDoors$Opener", "against", "[I", true)
  | 1 => ("LaneDoors$Opener", "earlier", "[I", true)
  | 2 => ("LaneDoors$Opener", "prices", "[I", true)
  | 3 => ("LaneDoors$Opener", "ways", "[I", true)
  | 4 => ("LaneDoors$Opener", "marks", "[Z", true)
  | 5 => ("LaneDoors$Opener", "open", "I", false)
  | _ => ("LaneDoors$Opener", "ready", "I", false)
def tyX4 : Nat → FieldType := fun k => match k with
  | 0 => .array .int
  | 1 => .array .int
  | 2 => .array .int
  | 3 => .array .int
  | 4 => .array .boolean
  | 5 => .int
  | _ => .int
theorem nmX4 : ∀ a, a < 7 → ∀ b, b < 7 → a ≠ b → (TX4 a).2.1 ≠ (TX4 b).2.1 := by decide +kernel
theorem tyX4_ok : ∀ k, k < 7 → parseFieldDescriptor (TX4 k).2.2.1 = some (tyX4 k) := by decide +kernel
def RX5 : String := "LaneDoors$Pile"
def TX5 : u_T := fun k => match k with
  | 0 => ("LaneDoors$Pile", "numbers", "[I", true)
  | _ => ("LaneDoors$Pile", "size", "I", false)
def tyX5 : Nat → FieldType := fun k => match k with
  | 0 => .array .int
  | _ => .int
theorem nmX5 : ∀ a, a < 2 → ∀ b, b < 2 → a ≠ b → (TX5 a).2.1 ≠ (TX5 b).2.1 := by decide +kernel
theorem tyX5_ok : ∀ k, k < 2 → parseFieldDescriptor (TX5 k).2.2.1 = some (tyX5 k) := by decide +kernel
def RX6 : String := "LaneDoors$Plan"
def TX6 : u_T := fun k => match k with
  | 0 => ("LaneDoors$Plan", "laneLong", "[I", true)
  | 1 => ("LaneDoors$Plan", "laneWide", "[I", true)
  | 2 => ("LaneDoors$Plan", "doorLane", "[I", true)
  | 3 => ("LaneDoors$Plan", "doorPlace", "[I", true)
  | 4 => ("LaneDoors$Plan", "doorBroad", "[I", true)
  | 5 => ("LaneDoors$Plan", "cornerFrom", "[I", true)
  | 6 => ("LaneDoors$Plan", "cornerTo", "[I", true)
  | 7 => ("LaneDoors$Plan", "oil", "LLaneDoors$Formula;", true)
  | 8 => ("LaneDoors$Plan", "lanes", "I", false)
  | 9 => ("LaneDoors$Plan", "doors", "I", false)
  | 10 => ("LaneDoors$Plan", "corners", "I", false)
  | 11 => ("LaneDoors$Plan", "south", "I", false)
  | 12 => ("LaneDoors$Plan", "right", "I", false)
  | 13 => ("LaneDoors$Plan", "loose", "I", false)
  | 14 => ("LaneDoors$Plan", "tied", "I", false)
  | 15 => ("LaneDoors$Plan", "open", "I", false)
  | 16 => ("LaneDoors$Plan", "stock", "I", false)
  | _ => ("LaneDoors$Plan", "draw", "I", false)
def tyX6 : Nat → FieldType := fun k => match k with
  | 0 => .array .int
  | 1 => .array .int
  | 2 => .array .int
  | 3 => .array .int
  | 4 => .array .int
  | 5 => .array .int
  | 6 => .array .int
  | 7 => .object "LaneDoors$Formula"
  | 8 => .int
  | 9 => .int
  | 10 => .int
  | 11 => .int
  | 12 => .int
  | 13 => .int
  | 14 => .int
  | 15 => .int
  | 16 => .int
  | _ => .int
theorem nmX6 : ∀ a, a < 18 → ∀ b, b < 18 → a ≠ b → (TX6 a).2.1 ≠ (TX6 b).2.1 := by decide +kernel
theorem tyX6_ok : ∀ k, k < 18 → parseFieldDescriptor (TX6 k).2.2.1 = some (tyX6 k) := by decide +kernel
def RX7 : String := "LaneDoors$Reader"
def TX7 : u_T := fun k => match k with
  | 0 => ("LaneDoors$Reader", "lexer", "LLaneDoors$Lexer;", true)
  | 1 => ("LaneDoors$Reader", "laneNames", "[J", true)
  | 2 => ("LaneDoors$Reader", "doorNames", "[J", true)
  | 3 => ("LaneDoors$Reader", "plan", "LLaneDoors$Plan;", false)
  | 4 => ("LaneDoors$Reader", "told", "I", false)
  | 5 => ("LaneDoors$Reader", "fault", "I", false)
  | _ => ("LaneDoors$Reader", "faultPlace", "I", false)
def tyX7 : Nat → FieldType := fun k => match k with
  | 0 => .object "LaneDoors$Lexer"
  | 1 => .array .long
  | 2 => .array .long
  | 3 => .object "LaneDoors$Plan"
  | 4 => .int
  | 5 => .int
  | _ => .int
theorem nmX7 : ∀ a, a < 7 → ∀ b, b < 7 → a ≠ b → (TX7 a).2.1 ≠ (TX7 b).2.1 := by decide +kernel
theorem tyX7_ok : ∀ k, k < 7 → parseFieldDescriptor (TX7 k).2.2.1 = some (tyX7 k) := by decide +kernel
def RX8 : String := "LaneDoors$State"
def TX8 : u_T := fun k => match k with
  | 0 => ("LaneDoors$State", "open", "I", false)
  | 1 => ("LaneDoors$State", "off", "I", false)
  | 2 => ("LaneDoors$State", "right", "I", false)
  | 3 => ("LaneDoors$State", "stock", "I", false)
  | 4 => ("LaneDoors$State", "day", "I", false)
  | 5 => ("LaneDoors$State", "seed", "I", false)
  | _ => ("LaneDoors$State", "times", "[I", true)
def tyX8 : Nat → FieldType := fun k => match k with
  | 0 => .int
  | 1 => .int
  | 2 => .int
  | 3 => .int
  | 4 => .int
  | 5 => .int
  | _ => .array .int
theorem nmX8 : ∀ a, a < 7 → ∀ b, b < 7 → a ≠ b → (TX8 a).2.1 ≠ (TX8 b).2.1 := by decide +kernel
theorem tyX8_ok : ∀ k, k < 7 → parseFieldDescriptor (TX8 k).2.2.1 = some (tyX8 k) := by decide +kernel
def RX9 : String := "LaneDoors$Streets"
def TX9 : u_T := fun k => match k with
  | 0 => ("LaneDoors$Streets", "free", "[I", true)
  | 1 => ("LaneDoors$Streets", "steps", "[I", true)
  | 2 => ("LaneDoors$Streets", "queue", "[I", true)
  | 3 => ("LaneDoors$Streets", "queued", "I", false)
  | _ => ("LaneDoors$Streets", "parts", "I", false)
def tyX9 : Nat → FieldType := fun k => match k with
  | 0 => .array .int
  | 1 => .array .int
  | 2 => .array .int
  | 3 => .int
  | _ => .int
theorem nmX9 : ∀ a, a < 5 → ∀ b, b < 5 → a ≠ b → (TX9 a).2.1 ≠ (TX9 b).2.1 := by decide +kernel
theorem tyX9_ok : ∀ k, k < 5 → parseFieldDescriptor (TX9 k).2.2.1 = some (tyX9 k) := by decide +kernel
def RX10 : String := "LaneDoors$Tape"
def TX10 : u_T := fun k => match k with
  | 0 => ("LaneDoors$Tape", "bytes", "[B", true)
  | _ => ("LaneDoors$Tape", "length", "I", false)
def tyX10 : Nat → FieldType := fun k => match k with
  | 0 => .array .byte
  | _ => .int
theorem nmX10 : ∀ a, a < 2 → ∀ b, b < 2 → a ≠ b → (TX10 a).2.1 ≠ (TX10 b).2.1 := by decide +kernel
theorem tyX10_ok : ∀ k, k < 2 → parseFieldDescriptor (TX10 k).2.2.1 = some (tyX10 k) := by decide +kernel
def RX11 : String := "LaneDoors"
def TX11 : u_T := fun k => match k with
  | 0 => ("LaneDoors", "tape", "LLaneDoors$Tape;", true)
  | 1 => ("LaneDoors", "reader", "LLaneDoors$Reader;", true)
  | 2 => ("LaneDoors", "history", "LLaneDoors$History;", true)
  | 3 => ("LaneDoors", "trial", "LLaneDoors$State;", true)
  | 4 => ("LaneDoors", "boxes", "[LLaneDoors$State;", true)
  | 5 => ("LaneDoors", "hearsay", "LLaneDoors$Hearsay;", true)
  | 6 => ("LaneDoors", "opener", "LLaneDoors$Opener;", true)
  | 7 => ("LaneDoors", "streets", "LLaneDoors$Streets;", true)
  | 8 => ("LaneDoors", "pile", "LLaneDoors$Pile;", true)
  | 9 => ("LaneDoors", "plan", "LLaneDoors$Plan;", false)
  | 10 => ("LaneDoors", "now", "LLaneDoors$State;", false)
  | _ => ("LaneDoors", "boxesKept", "I", false)
def tyX11 : Nat → FieldType := fun k => match k with
  | 0 => .object "LaneDoors$Tape"
  | 1 => .object "LaneDoors$Reader"
  | 2 => .object "LaneDoors$History"
  | 3 => .object "LaneDoors$State"
  | 4 => .array (.object "LaneDoors$State")
  | 5 => .object "LaneDoors$Hearsay"
  | 6 => .object "LaneDoors$Opener"
  | 7 => .object "LaneDoors$Streets"
  | 8 => .object "LaneDoors$Pile"
  | 9 => .object "LaneDoors$Plan"
  | 10 => .object "LaneDoors$State"
  | _ => .int
theorem nmX11 : ∀ a, a < 12 → ∀ b, b < 12 → a ≠ b → (TX11 a).2.1 ≠ (TX11 b).2.1 := by decide +kernel
theorem tyX11_ok : ∀ k, k < 12 → parseFieldDescriptor (TX11 k).2.2.1 = some (tyX11 k) := by decide +kernel
def RX12 : String := "LaneDoorsModel"
def TX12 : u_T := fun k => match k with
  | 0 => ("LaneDoorsModel", "tape", "[B", true)
  | 1 => ("LaneDoorsModel", "text", "[B", true)
  | 2 => ("LaneDoorsModel", "taped", "I", false)
  | 3 => ("LaneDoorsModel", "size", "I", false)
  | 4 => ("LaneDoorsModel", "faultKind", "I", false)
  | 5 => ("LaneDoorsModel", "faultPlace", "I", false)
  | 6 => ("LaneDoorsModel", "at", "I", false)
  | 7 => ("LaneDoorsModel", "end", "I", false)
  | 8 => ("LaneDoorsModel", "token", "I", false)
  | 9 => ("LaneDoorsModel", "number", "I", false)
  | 10 => ("LaneDoorsModel", "name", "J", false)
  | 11 => ("LaneDoorsModel", "lanes", "[I", true)
  | 12 => ("LaneDoorsModel", "doors", "[I", true)
  | 13 => ("LaneDoorsModel", "corners", "[I", true)
  | 14 => ("LaneDoorsModel", "units", "[I", true)
  | 15 => ("LaneDoorsModel", "stock", "[I", true)
  | 16 => ("LaneDoorsModel", "draw", "[I", true)
  | 17 => ("LaneDoorsModel", "longOf", "[I", true)
  | 18 => ("LaneDoorsModel", "wideOf", "[I", true)
  | 19 => ("LaneDoorsModel", "laneOf", "[I", true)
  | 20 => ("LaneDoorsModel", "placeOf", "[I", true)
  | 21 => ("LaneDoorsModel", "broadOf", "[I", true)
  | 22 => ("LaneDoorsModel", "oneLane", "[I", true)
  | 23 => ("LaneDoorsModel", "onePlace", "[I", true)
  | 24 => ("LaneDoorsModel", "otherLane", "[I", true)
  | 25 => ("LaneDoorsModel", "otherPlace", "[I", true)
  | 26 => ("LaneDoorsModel", "ruleFrom", "[I", true)
  | 27 => ("LaneDoorsModel", "ruleTo", "[I", true)
  | 28 => ("LaneDoorsModel", "toldOpen", "[I", true)
  | 29 => ("LaneDoorsModel", "toldRight", "[I", true)
  | 30 => ("LaneDoorsModel", "southern", "[I", true)
  | 31 => ("LaneDoorsModel", "loose", "[I", true)
  | 32 => ("LaneDoorsModel", "tied", "[I", true)
  | 33 => ("LaneDoorsModel", "isStock", "[Z", true)
  | 34 => ("LaneDoorsModel", "isDraw", "[Z", true)
  | 35 => ("LaneDoorsModel", "hasOil", "[Z", true)
  | 36 => ("LaneDoorsModel", "lName", "[J", true)
  | 37 => ("LaneDoorsModel", "dName", "[J", true)
  | 38 => ("LaneDoorsModel", "code", "[I", true)
  | 39 => ("LaneDoorsModel", "codeNumber", "[I", true)
  | 40 => ("LaneDoorsModel", "eWhat", "[I", true)
  | 41 => ("LaneDoorsModel", "eSign", "[I", true)
  | 42 => ("LaneDoorsModel", "pile", "[I", true)
  | 43 => ("LaneDoorsModel", "bank", "I", false)
  | 44 => ("LaneDoorsModel", "rb", "I", false)
  | 45 => ("LaneDoorsModel", "codes", "I", false)
  | 46 => ("LaneDoorsModel", "within", "I", false)
  | 47 => ("LaneDoorsModel", "piled", "I", false)
  | 48 => ("LaneDoorsModel", "unitsInRule", "I", false)
  | 49 => ("LaneDoorsModel", "all", "[I", true)
  | 50 => ("LaneDoorsModel", "hinderers", "[I", true)
  | 51 => ("LaneDoorsModel", "was", "[I", true)
  | 52 => ("LaneDoorsModel", "acts", "I", false)
  | 53 => ("LaneDoorsModel", "undone", "I", false)
  | 54 => ("LaneDoorsModel", "ways", "[I", true)
  | 55 => ("LaneDoorsModel", "ahead", "[I", true)
  | 56 => ("LaneDoorsModel", "laidRow", "[I", true)
  | 57 => ("LaneDoorsModel", "laid", "I", false)
  | 58 => ("LaneDoorsModel", "comesTo", "[Z", true)
  | 59 => ("LaneDoorsModel", "steps", "[I", true)
  | 60 => ("LaneDoorsModel", "queue", "[I", true)
  | 61 => ("LaneDoorsModel", "queued", "I", false)
  | 62 => ("LaneDoorsModel", "isMet", "[Z", true)
  | 63 => ("LaneDoorsModel", "wins", "[Z", true)
  | 64 => ("LaneDoorsModel", "hOne", "[I", true)
  | 65 => ("LaneDoorsModel", "hOther", "[I", true)
  | 66 => ("LaneDoorsModel", "hTold", "[I", true)
  | 67 => ("LaneDoorsModel", "hUntold", "[I", true)
  | 68 => ("LaneDoorsModel", "sounds", "I", false)
  | 69 => ("LaneDoorsModel", "time", "I", false)
  | 70 => ("LaneDoorsModel", "boxAll", "[I", true)
  | _ => ("LaneDoorsModel", "isBoxed", "[Z", true)
def tyX12 : Nat → FieldType := fun k => match k with
  | 0 => .array .byte
  | 1 => .array .byte
  | 2 => .int
  | 3 => .int
  | 4 => .int
  | 5 => .int
  | 6 => .int
  | 7 => .int
  | 8 => .int
  | 9 => .int
  | 10 => .long
  | 11 => .array .int
  | 12 => .array .int
  | 13 => .array .int
  | 14 => .array .int
  | 15 => .array .int
  | 16 => .array .int
  | 17 => .array .int
  | 18 => .array .int
  | 19 => .array .int
  | 20 => .array .int
  | 21 => .array .int
  | 22 => .array .int
  | 23 => .array .int
  | 24 => .array .int
  | 25 => .array .int
  | 26 => .array .int
  | 27 => .array .int
  | 28 => .array .int
  | 29 => .array .int
  | 30 => .array .int
  | 31 => .array .int
  | 32 => .array .int
  | 33 => .array .boolean
  | 34 => .array .boolean
  | 35 => .array .boolean
  | 36 => .array .long
  | 37 => .array .long
  | 38 => .array .int
  | 39 => .array .int
  | 40 => .array .int
  | 41 => .array .int
  | 42 => .array .int
  | 43 => .int
  | 44 => .int
  | 45 => .int
  | 46 => .int
  | 47 => .int
  | 48 => .int
  | 49 => .array .int
  | 50 => .array .int
  | 51 => .array .int
  | 52 => .int
  | 53 => .int
  | 54 => .array .int
  | 55 => .array .int
  | 56 => .array .int
  | 57 => .int
  | 58 => .array .boolean
  | 59 => .array .int
  | 60 => .array .int
  | 61 => .int
  | 62 => .array .boolean
  | 63 => .array .boolean
  | 64 => .array .int
  | 65 => .array .int
  | 66 => .array .int
  | 67 => .array .int
  | 68 => .int
  | 69 => .int
  | 70 => .array .int
  | _ => .array .boolean
theorem nmX12 : ∀ a, a < 72 → ∀ b, b < 72 → a ≠ b → (TX12 a).2.1 ≠ (TX12 b).2.1 := by decide +kernel
theorem tyX12_ok : ∀ k, k < 72 → parseFieldDescriptor (TX12 k).2.2.1 = some (tyX12 k) := by decide +kernel
abbrev vwCl : List vw_C := [(RX0, TX0, 5), (RX1, TX1, 6), (RX2, TX2, 4), (RX3, TX3, 7), (RX4, TX4, 7), (RX5, TX5, 2), (RX6, TX6, 18), (RX7, TX7, 7), (RX8, TX8, 7), (RX9, TX9, 5), (RX10, TX10, 2), (RX11, TX11, 12), (RX12, TX12, 72)]
