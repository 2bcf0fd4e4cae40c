def RX0 : String := "BlindPost$Land"
def TX0 : u_T := fun k => match k with
  | 0 => ("BlindPost$Land", "kinds", "[I", true)
  | 1 => ("BlindPost$Land", "known", "[I", true)
  | 2 => ("BlindPost$Land", "ones", "[I", true)
  | 3 => ("BlindPost$Land", "others", "[I", true)
  | 4 => ("BlindPost$Land", "times", "[I", true)
  | 5 => ("BlindPost$Land", "metIn", "[[I", true)
  | 6 => ("BlindPost$Land", "metEver", "[I", true)
  | 7 => ("BlindPost$Land", "letters", "[LBlindPost$Letter;", true)
  | 8 => ("BlindPost$Land", "handCount", "I", false)
  | 9 => ("BlindPost$Land", "meetingCount", "I", false)
  | 10 => ("BlindPost$Land", "letterCount", "I", false)
  | _ => ("BlindPost$Land", "hour", "I", false)
def tyX0 : Nat → FieldType := fun k => match k with
  | 0 => .array .int
  | 1 => .array .int
  | 2 => .array .int
  | 3 => .array .int
  | 4 => .array .int
  | 5 => .array (.array .int)
  | 6 => .array .int
  | 7 => .array (.object "BlindPost$Letter")
  | 8 => .int
  | 9 => .int
  | 10 => .int
  | _ => .int
abbrev wsX00 : List Cond := u_ws RX0 TX0 12
theorem nmX0 : ∀ a, a < 12 → ∀ b, b < 12 → a ≠ b → (TX0 a).2.1 ≠ (TX0 b).2.1 := by decide +kernel
theorem tyX0_ok : ∀ k, k < 12 → parseFieldDescriptor (TX0 k).2.2.1 = some (tyX0 k) := by decide +kernel
def RX1 : String := "BlindPost$Letter"
def TX1 : u_T := fun k => match k with
  | 0 => ("BlindPost$Letter", "through", "[I", true)
  | 1 => ("BlindPost$Letter", "came", "[I", true)
  | 2 => ("BlindPost$Letter", "length", "I", false)
  | 3 => ("BlindPost$Letter", "to", "I", false)
  | _ => ("BlindPost$Letter", "tongues", "I", false)
def tyX1 : Nat → FieldType := fun k => match k with
  | 0 => .array .int
  | 1 => .array .int
  | 2 => .int
  | 3 => .int
  | _ => .int
abbrev wsX10 : List Cond := u_ws RX1 TX1 5
theorem nmX1 : ∀ a, a < 5 → ∀ b, b < 5 → a ≠ b → (TX1 a).2.1 ≠ (TX1 b).2.1 := by decide +kernel
theorem tyX1_ok : ∀ k, k < 5 → parseFieldDescriptor (TX1 k).2.2.1 = some (tyX1 k) := by decide +kernel
def RX2 : String := "BlindPost$Pairs"
def TX2 : u_T := fun k => match k with
  | 0 => ("BlindPost$Pairs", "land", "LBlindPost$Land;", true)
  | 1 => ("BlindPost$Pairs", "ways", "LBlindPost$Ways;", true)
  | 2 => ("BlindPost$Pairs", "reached", "[I", true)
  | 3 => ("BlindPost$Pairs", "all", "I", false)
  | _ => ("BlindPost$Pairs", "cut", "I", false)
def tyX2 : Nat → FieldType := fun k => match k with
  | 0 => .object "BlindPost$Land"
  | 1 => .object "BlindPost$Ways"
  | 2 => .array .int
  | 3 => .int
  | _ => .int
abbrev wsX20 : List Cond := u_ws RX2 TX2 5
theorem nmX2 : ∀ a, a < 5 → ∀ b, b < 5 → a ≠ b → (TX2 a).2.1 ≠ (TX2 b).2.1 := by decide +kernel
theorem tyX2_ok : ∀ k, k < 5 → parseFieldDescriptor (TX2 k).2.2.1 = some (tyX2 k) := by decide +kernel
def RX3 : String := "BlindPost$Reading"
def TX3 : u_T := fun k => match k with
  | 0 => ("BlindPost$Reading", "drawn", "LBlindPost$Land;", true)
  | 1 => ("BlindPost$Reading", "stage", "I", false)
  | 2 => ("BlindPost$Reading", "lastFigure", "I", false)
  | 3 => ("BlindPost$Reading", "one", "I", false)
  | _ => ("BlindPost$Reading", "other", "I", false)
def tyX3 : Nat → FieldType := fun k => match k with
  | 0 => .object "BlindPost$Land"
  | 1 => .int
  | 2 => .int
  | 3 => .int
  | _ => .int
abbrev wsX30 : List Cond := u_ws RX3 TX3 5
theorem nmX3 : ∀ a, a < 5 → ∀ b, b < 5 → a ≠ b → (TX3 a).2.1 ≠ (TX3 b).2.1 := by decide +kernel
theorem tyX3_ok : ∀ k, k < 5 → parseFieldDescriptor (TX3 k).2.2.1 = some (tyX3 k) := by decide +kernel
def RX4 : String := "BlindPost$Sheet"
def TX4 : u_T := fun k => match k with
  | 0 => ("BlindPost$Sheet", "places", "[I", true)
  | _ => ("BlindPost$Sheet", "size", "I", false)
def tyX4 : Nat → FieldType := fun k => match k with
  | 0 => .array .int
  | _ => .int
abbrev wsX40 : List Cond := u_ws RX4 TX4 2
theorem nmX4 : ∀ a, a < 2 → ∀ b, b < 2 → a ≠ b → (TX4 a).2.1 ≠ (TX4 b).2.1 := by decide +kernel
theorem tyX4_ok : ∀ k, k < 2 → parseFieldDescriptor (TX4 k).2.2.1 = some (tyX4 k) := by decide +kernel
def RX5 : String := "BlindPost$Ways"
def TX5 : u_T := fun k => match k with
  | 0 => ("BlindPost$Ways", "land", "LBlindPost$Land;", true)
  | 1 => ("BlindPost$Ways", "prices", "[I", true)
  | 2 => ("BlindPost$Ways", "ahead", "[I", true)
  | 3 => ("BlindPost$Ways", "mutes", "I", false)
  | 4 => ("BlindPost$Ways", "through", "[I", true)
  | _ => ("BlindPost$Ways", "length", "I", false)
def tyX5 : Nat → FieldType := fun k => match k with
  | 0 => .object "BlindPost$Land"
  | 1 => .array .int
  | 2 => .array .int
  | 3 => .int
  | 4 => .array .int
  | _ => .int
abbrev wsX50 : List Cond := u_ws RX5 TX5 6
theorem nmX5 : ∀ a, a < 6 → ∀ b, b < 6 → a ≠ b → (TX5 a).2.1 ≠ (TX5 b).2.1 := by decide +kernel
theorem tyX5_ok : ∀ k, k < 6 → parseFieldDescriptor (TX5 k).2.2.1 = some (tyX5 k) := by decide +kernel
def RX6 : String := "BlindPost"
def TX6 : u_T := fun k => match k with
  | 0 => ("BlindPost", "rows", "[LBlindPost$Sheet;", true)
  | 1 => ("BlindPost", "texts", "[LBlindPost$Sheet;", true)
  | 2 => ("BlindPost", "land", "LBlindPost$Land;", true)
  | 3 => ("BlindPost", "drawn", "LBlindPost$Land;", true)
  | 4 => ("BlindPost", "kept", "[LBlindPost$Land;", true)
  | 5 => ("BlindPost", "isKept", "[Z", true)
  | 6 => ("BlindPost", "reading", "LBlindPost$Reading;", true)
  | 7 => ("BlindPost", "ways", "LBlindPost$Ways;", true)
  | 8 => ("BlindPost", "pairs", "LBlindPost$Pairs;", true)
  | 9 => ("BlindPost", "timesFound", "[I", true)
  | 10 => ("BlindPost", "lastFound", "I", false)
  | _ => ("BlindPost", "told", "I", false)
def tyX6 : Nat → FieldType := fun k => match k with
  | 0 => .array (.object "BlindPost$Sheet")
  | 1 => .array (.object "BlindPost$Sheet")
  | 2 => .object "BlindPost$Land"
  | 3 => .object "BlindPost$Land"
  | 4 => .array (.object "BlindPost$Land")
  | 5 => .array .boolean
  | 6 => .object "BlindPost$Reading"
  | 7 => .object "BlindPost$Ways"
  | 8 => .object "BlindPost$Pairs"
  | 9 => .array .int
  | 10 => .int
  | _ => .int
abbrev wsX60 : List Cond := u_ws RX6 TX6 12
theorem nmX6 : ∀ a, a < 12 → ∀ b, b < 12 → a ≠ b → (TX6 a).2.1 ≠ (TX6 b).2.1 := by decide +kernel
theorem tyX6_ok : ∀ k, k < 12 → parseFieldDescriptor (TX6 k).2.2.1 = some (tyX6 k) := by decide +kernel
def RX7 : String := "BlindPostModel"
def TX7 : u_T := fun k => match k with
  | 0 => ("BlindPostModel", "finding", "I", false)
  | 1 => ("BlindPostModel", "findings", "[I", true)
  | 2 => ("BlindPostModel", "asked", "I", false)
  | 3 => ("BlindPostModel", "sizes", "[I", true)
  | 4 => ("BlindPostModel", "rows", "[I", true)
  | 5 => ("BlindPostModel", "moving", "[I", true)
  | 6 => ("BlindPostModel", "lengths", "[I", true)
  | 7 => ("BlindPostModel", "texts", "[I", true)
  | 8 => ("BlindPostModel", "many", "I", false)
  | 9 => ("BlindPostModel", "kinds", "[I", true)
  | 10 => ("BlindPostModel", "known", "[I", true)
  | 11 => ("BlindPostModel", "meetMany", "I", false)
  | 12 => ("BlindPostModel", "meetings", "[I", true)
  | 13 => ("BlindPostModel", "hour", "I", false)
  | 14 => ("BlindPostModel", "letterMany", "I", false)
  | 15 => ("BlindPostModel", "letters", "[I", true)
  | 16 => ("BlindPostModel", "readAt", "I", false)
  | 17 => ("BlindPostModel", "readMany", "I", false)
  | 18 => ("BlindPostModel", "readMeets", "I", false)
  | 19 => ("BlindPostModel", "readKinds", "[I", true)
  | 20 => ("BlindPostModel", "readKnown", "[I", true)
  | 21 => ("BlindPostModel", "readMeetings", "[I", true)
  | 22 => ("BlindPostModel", "kept", "[I", true)
  | 23 => ("BlindPostModel", "way", "[I", true)
  | 24 => ("BlindPostModel", "bestWay", "[I", true)
  | 25 => ("BlindPostModel", "bestMany", "I", false)
  | 26 => ("BlindPostModel", "bestCost", "I", false)
  | 27 => ("BlindPostModel", "wayMany", "I", false)
  | 28 => ("BlindPostModel", "eachSet", "I", false)
  | 29 => ("BlindPostModel", "isWay", "[Z", true)
  | 30 => ("BlindPostModel", "pairMany", "I", false)
  | 31 => ("BlindPostModel", "pairTongues", "[I", true)
  | _ => ("BlindPostModel", "h0", "J", false)
def tyX7 : Nat → FieldType := fun k => match k with
  | 0 => .int
  | 1 => .array .int
  | 2 => .int
  | 3 => .array .int
  | 4 => .array .int
  | 5 => .array .int
  | 6 => .array .int
  | 7 => .array .int
  | 8 => .int
  | 9 => .array .int
  | 10 => .array .int
  | 11 => .int
  | 12 => .array .int
  | 13 => .int
  | 14 => .int
  | 15 => .array .int
  | 16 => .int
  | 17 => .int
  | 18 => .int
  | 19 => .array .int
  | 20 => .array .int
  | 21 => .array .int
  | 22 => .array .int
  | 23 => .array .int
  | 24 => .array .int
  | 25 => .int
  | 26 => .int
  | 27 => .int
  | 28 => .int
  | 29 => .array .boolean
  | 30 => .int
  | 31 => .array .int
  | _ => .long
abbrev wsX70 : List Cond := u_ws RX7 TX7 33
theorem nmX7 : ∀ a, a < 33 → ∀ b, b < 33 → a ≠ b → (TX7 a).2.1 ≠ (TX7 b).2.1 := by decide +kernel
theorem tyX7_ok : ∀ k, k < 33 → parseFieldDescriptor (TX7 k).2.2.1 = some (tyX7 k) := by decide +kernel
def RL : String := "BlindPostLaw"
abbrev vwCl : List vw_C := [(RX0, TX0, 12), (RX1, TX1, 5), (RX2, TX2, 5), (RX3, TX3, 5), (RX4, TX4, 2), (RX5, TX5, 6), (RX6, TX6, 12), (RX7, TX7, 33)]
