-- classes: names, fields (declaring class, name, descriptor, final), types
def RX0 : String := "BlazedPath$Country"
def TX0 : u_T := fun k => match k with
  | 0 => ("BlazedPath$Country", "kinds", "[I", true)
  | 1 => ("BlazedPath$Country", "draft", "[I", true)
  | 2 => ("BlazedPath$Country", "arms", "[I", true)
  | 3 => ("BlazedPath$Country", "width", "I", false)
  | _ => ("BlazedPath$Country", "light", "I", false)
def tyX0 : Nat → FieldType := fun k => match k with
  | 0 => .array .int
  | 1 => .array .int
  | 2 => .array .int
  | 3 => .int
  | _ => .int
theorem nmX0 : ∀ a, a < 5 → ∀ b, b < 5 → a ≠ b → (TX0 a).2.1 ≠ (TX0 b).2.1 := by decide +kernel
theorem tyX0_ok : ∀ k, k < 5 → parseFieldDescriptor (TX0 k).2.2.1 = some (tyX0 k) := by decide +kernel
def RX1 : String := "BlazedPath$Law"
def TX1 : u_T := fun k => match k with
  | 0 => ("BlazedPath$Law", "codes", "[I", true)
  | 1 => ("BlazedPath$Law", "operands", "[I", true)
  | 2 => ("BlazedPath$Law", "size", "I", false)
  | 3 => ("BlazedPath$Law", "letters", "[I", true)
  | 4 => ("BlazedPath$Law", "begins", "[I", true)
  | 5 => ("BlazedPath$Law", "middles", "[I", true)
  | 6 => ("BlazedPath$Law", "ends", "[I", true)
  | 7 => ("BlazedPath$Law", "clauses", "I", false)
  | 8 => ("BlazedPath$Law", "told", "[I", true)
  | _ => ("BlazedPath$Law", "stack", "[I", true)
def tyX1 : Nat → FieldType := fun k => match k with
  | 0 => .array .int
  | 1 => .array .int
  | 2 => .int
  | 3 => .array .int
  | 4 => .array .int
  | 5 => .array .int
  | 6 => .array .int
  | 7 => .int
  | 8 => .array .int
  | _ => .array .int
theorem nmX1 : ∀ a, a < 10 → ∀ b, b < 10 → a ≠ b → (TX1 a).2.1 ≠ (TX1 b).2.1 := by decide +kernel
theorem tyX1_ok : ∀ k, k < 10 → parseFieldDescriptor (TX1 k).2.2.1 = some (tyX1 k) := by decide +kernel
def RX2 : String := "BlazedPath$LawReader"
def TX2 : u_T := fun k => match k with
  | 0 => ("BlazedPath$LawReader", "draft", "LBlazedPath$Law;", true)
  | 1 => ("BlazedPath$LawReader", "text", "LBlazedPath$Tape;", false)
  | 2 => ("BlazedPath$LawReader", "at", "I", false)
  | _ => ("BlazedPath$LawReader", "fault", "I", false)
def tyX2 : Nat → FieldType := fun k => match k with
  | 0 => .object "BlazedPath$Law"
  | 1 => .object "BlazedPath$Tape"
  | 2 => .int
  | _ => .int
theorem nmX2 : ∀ a, a < 4 → ∀ b, b < 4 → a ≠ b → (TX2 a).2.1 ≠ (TX2 b).2.1 := by decide +kernel
theorem tyX2_ok : ∀ k, k < 4 → parseFieldDescriptor (TX2 k).2.2.1 = some (tyX2 k) := by decide +kernel
def RX3 : String := "BlazedPath$Legs"
def TX3 : u_T := fun k => match k with
  | 0 => ("BlazedPath$Legs", "right", "I", false)
  | 1 => ("BlazedPath$Legs", "forward", "I", false)
  | 2 => ("BlazedPath$Legs", "slackRight", "I", false)
  | _ => ("BlazedPath$Legs", "slackForward", "I", false)
def tyX3 : Nat → FieldType := fun k => match k with
  | 0 => .int
  | 1 => .int
  | 2 => .int
  | _ => .int
theorem nmX3 : ∀ a, a < 4 → ∀ b, b < 4 → a ≠ b → (TX3 a).2.1 ≠ (TX3 b).2.1 := by decide +kernel
theorem tyX3_ok : ∀ k, k < 4 → parseFieldDescriptor (TX3 k).2.2.1 = some (tyX3 k) := by decide +kernel
def RX4 : String := "BlazedPath$Outing"
def TX4 : u_T := fun k => match k with
  | 0 => ("BlazedPath$Outing", "country", "LBlazedPath$Country;", true)
  | 1 => ("BlazedPath$Outing", "law", "LBlazedPath$Law;", true)
  | 2 => ("BlazedPath$Outing", "acts", "[I", true)
  | 3 => ("BlazedPath$Outing", "size", "I", false)
  | 4 => ("BlazedPath$Outing", "text", "LBlazedPath$Tape;", false)
  | 5 => ("BlazedPath$Outing", "at", "I", false)
  | 6 => ("BlazedPath$Outing", "fault", "I", false)
  | 7 => ("BlazedPath$Outing", "cellsCut", "I", false)
  | 8 => ("BlazedPath$Outing", "actsDone", "I", false)
  | 9 => ("BlazedPath$Outing", "isDark", "Z", false)
  | 10 => ("BlazedPath$Outing", "turnActs", "I", false)
  | _ => ("BlazedPath$Outing", "turnMinutes", "I", false)
def tyX4 : Nat → FieldType := fun k => match k with
  | 0 => .object "BlazedPath$Country"
  | 1 => .object "BlazedPath$Law"
  | 2 => .array .int
  | 3 => .int
  | 4 => .object "BlazedPath$Tape"
  | 5 => .int
  | 6 => .int
  | 7 => .int
  | 8 => .int
  | 9 => .boolean
  | 10 => .int
  | _ => .int
theorem nmX4 : ∀ a, a < 12 → ∀ b, b < 12 → a ≠ b → (TX4 a).2.1 ≠ (TX4 b).2.1 := by decide +kernel
theorem tyX4_ok : ∀ k, k < 12 → parseFieldDescriptor (TX4 k).2.2.1 = some (tyX4 k) := by decide +kernel
def RX5 : String := "BlazedPath$Overgrowth"
def TX5 : u_T := fun k => match k with
  | 0 => ("BlazedPath$Overgrowth", "country", "LBlazedPath$Country;", true)
  | 1 => ("BlazedPath$Overgrowth", "law", "LBlazedPath$Law;", true)
  | 2 => ("BlazedPath$Overgrowth", "asked", "[I", true)
  | 3 => ("BlazedPath$Overgrowth", "daysPassed", "I", false)
  | 4 => ("BlazedPath$Overgrowth", "planMinutes", "I", false)
  | 5 => ("BlazedPath$Overgrowth", "planWidth", "I", false)
  | 6 => ("BlazedPath$Overgrowth", "planSpacing", "I", false)
  | 7 => ("BlazedPath$Overgrowth", "planFace", "I", false)
  | 8 => ("BlazedPath$Overgrowth", "firsts", "[I", true)
  | 9 => ("BlazedPath$Overgrowth", "lasts", "[I", true)
  | _ => ("BlazedPath$Overgrowth", "size", "I", false)
def tyX5 : Nat → FieldType := fun k => match k with
  | 0 => .object "BlazedPath$Country"
  | 1 => .object "BlazedPath$Law"
  | 2 => .array .int
  | 3 => .int
  | 4 => .int
  | 5 => .int
  | 6 => .int
  | 7 => .int
  | 8 => .array .int
  | 9 => .array .int
  | _ => .int
theorem nmX5 : ∀ a, a < 11 → ∀ b, b < 11 → a ≠ b → (TX5 a).2.1 ≠ (TX5 b).2.1 := by decide +kernel
theorem tyX5_ok : ∀ k, k < 11 → parseFieldDescriptor (TX5 k).2.2.1 = some (tyX5 k) := by decide +kernel
def RX6 : String := "BlazedPath$Routes"
def TX6 : u_T := fun k => match k with
  | 0 => ("BlazedPath$Routes", "country", "LBlazedPath$Country;", true)
  | 1 => ("BlazedPath$Routes", "law", "LBlazedPath$Law;", true)
  | 2 => ("BlazedPath$Routes", "reach", "[I", true)
  | 3 => ("BlazedPath$Routes", "isSettled", "[Z", true)
  | 4 => ("BlazedPath$Routes", "queue", "[I", true)
  | _ => ("BlazedPath$Routes", "costs", "[I", true)
def tyX6 : Nat → FieldType := fun k => match k with
  | 0 => .object "BlazedPath$Country"
  | 1 => .object "BlazedPath$Law"
  | 2 => .array .int
  | 3 => .array .boolean
  | 4 => .array .int
  | _ => .array .int
theorem nmX6 : ∀ a, a < 6 → ∀ b, b < 6 → a ≠ b → (TX6 a).2.1 ≠ (TX6 b).2.1 := by decide +kernel
theorem tyX6_ok : ∀ k, k < 6 → parseFieldDescriptor (TX6 k).2.2.1 = some (tyX6 k) := by decide +kernel
def RX7 : String := "BlazedPath$Search"
def TX7 : u_T := fun k => match k with
  | 0 => ("BlazedPath$Search", "cells", "[I", true)
  | 1 => ("BlazedPath$Search", "weights", "[I", true)
  | 2 => ("BlazedPath$Search", "size", "I", false)
  | 3 => ("BlazedPath$Search", "row", "[I", true)
  | 4 => ("BlazedPath$Search", "bestRow", "[I", true)
  | _ => ("BlazedPath$Search", "bestSum", "I", false)
def tyX7 : Nat → FieldType := fun k => match k with
  | 0 => .array .int
  | 1 => .array .int
  | 2 => .int
  | 3 => .array .int
  | 4 => .array .int
  | _ => .int
theorem nmX7 : ∀ a, a < 6 → ∀ b, b < 6 → a ≠ b → (TX7 a).2.1 ≠ (TX7 b).2.1 := by decide +kernel
theorem tyX7_ok : ∀ k, k < 6 → parseFieldDescriptor (TX7 k).2.2.1 = some (tyX7 k) := by decide +kernel
def RX8 : String := "BlazedPath$Shifts"
def TX8 : u_T := fun k => match k with
  | 0 => ("BlazedPath$Shifts", "country", "LBlazedPath$Country;", true)
  | 1 => ("BlazedPath$Shifts", "law", "LBlazedPath$Law;", true)
  | 2 => ("BlazedPath$Shifts", "members", "[I", true)
  | 3 => ("BlazedPath$Shifts", "size", "I", false)
  | 4 => ("BlazedPath$Shifts", "tired", "[I", true)
  | 5 => ("BlazedPath$Shifts", "changes", "[I", true)
  | 6 => ("BlazedPath$Shifts", "row", "[I", true)
  | 7 => ("BlazedPath$Shifts", "bestRow", "[I", true)
  | 8 => ("BlazedPath$Shifts", "turns", "I", false)
  | 9 => ("BlazedPath$Shifts", "mostYards", "I", false)
  | 10 => ("BlazedPath$Shifts", "day", "I", false)
  | _ => ("BlazedPath$Shifts", "bestYards", "I", false)
def tyX8 : Nat → FieldType := fun k => match k with
  | 0 => .object "BlazedPath$Country"
  | 1 => .object "BlazedPath$Law"
  | 2 => .array .int
  | 3 => .int
  | 4 => .array .int
  | 5 => .array .int
  | 6 => .array .int
  | 7 => .array .int
  | 8 => .int
  | 9 => .int
  | 10 => .int
  | _ => .int
theorem nmX8 : ∀ a, a < 12 → ∀ b, b < 12 → a ≠ b → (TX8 a).2.1 ≠ (TX8 b).2.1 := by decide +kernel
theorem tyX8_ok : ∀ k, k < 12 → parseFieldDescriptor (TX8 k).2.2.1 = some (tyX8 k) := by decide +kernel
def RX9 : String := "BlazedPath$Tape"
def TX9 : u_T := fun k => match k with
  | 0 => ("BlazedPath$Tape", "bytes", "[I", true)
  | 1 => ("BlazedPath$Tape", "size", "I", false)
  | _ => ("BlazedPath$Tape", "taken", "I", false)
def tyX9 : Nat → FieldType := fun k => match k with
  | 0 => .array .int
  | 1 => .int
  | _ => .int
theorem nmX9 : ∀ a, a < 3 → ∀ b, b < 3 → a ≠ b → (TX9 a).2.1 ≠ (TX9 b).2.1 := by decide +kernel
theorem tyX9_ok : ∀ k, k < 3 → parseFieldDescriptor (TX9 k).2.2.1 = some (tyX9 k) := by decide +kernel
def RX10 : String := "BlazedPath$Trip"
def TX10 : u_T := fun k => match k with
  | 0 => ("BlazedPath$Trip", "country", "LBlazedPath$Country;", true)
  | 1 => ("BlazedPath$Trip", "law", "LBlazedPath$Law;", true)
  | 2 => ("BlazedPath$Trip", "tired", "[I", true)
  | 3 => ("BlazedPath$Trip", "cells", "[I", true)
  | 4 => ("BlazedPath$Trip", "widths", "[I", true)
  | 5 => ("BlazedPath$Trip", "grown", "[I", true)
  | 6 => ("BlazedPath$Trip", "marks", "[I", true)
  | 7 => ("BlazedPath$Trip", "sticks", "[I", true)
  | 8 => ("BlazedPath$Trip", "isCut", "[I", true)
  | 9 => ("BlazedPath$Trip", "leader", "I", false)
  | 10 => ("BlazedPath$Trip", "length", "I", false)
  | 11 => ("BlazedPath$Trip", "place", "I", false)
  | 12 => ("BlazedPath$Trip", "minute", "I", false)
  | 13 => ("BlazedPath$Trip", "day", "I", false)
  | _ => ("BlazedPath$Trip", "drawn", "I", false)
def tyX10 : Nat → FieldType := fun k => match k with
  | 0 => .object "BlazedPath$Country"
  | 1 => .object "BlazedPath$Law"
  | 2 => .array .int
  | 3 => .array .int
  | 4 => .array .int
  | 5 => .array .int
  | 6 => .array .int
  | 7 => .array .int
  | 8 => .array .int
  | 9 => .int
  | 10 => .int
  | 11 => .int
  | 12 => .int
  | 13 => .int
  | _ => .int
theorem nmX10 : ∀ a, a < 15 → ∀ b, b < 15 → a ≠ b → (TX10 a).2.1 ≠ (TX10 b).2.1 := by decide +kernel
theorem tyX10_ok : ∀ k, k < 15 → parseFieldDescriptor (TX10 k).2.2.1 = some (tyX10 k) := by decide +kernel
def RX11 : String := "BlazedPath"
def TX11 : u_T := fun k => match k with
  | 0 => ("BlazedPath", "tape", "LBlazedPath$Tape;", true)
  | 1 => ("BlazedPath", "country", "LBlazedPath$Country;", true)
  | 2 => ("BlazedPath", "rules", "LBlazedPath$Law;", true)
  | 3 => ("BlazedPath", "lawReader", "LBlazedPath$LawReader;", true)
  | 4 => ("BlazedPath", "trip", "LBlazedPath$Trip;", true)
  | 5 => ("BlazedPath", "trial", "LBlazedPath$Trip;", true)
  | 6 => ("BlazedPath", "kept", "LBlazedPath$Trip;", true)
  | 7 => ("BlazedPath", "isKept", "Z", false)
  | 8 => ("BlazedPath", "outing", "LBlazedPath$Outing;", true)
  | 9 => ("BlazedPath", "routes", "LBlazedPath$Routes;", true)
  | 10 => ("BlazedPath", "shifts", "LBlazedPath$Shifts;", true)
  | 11 => ("BlazedPath", "search", "LBlazedPath$Search;", true)
  | 12 => ("BlazedPath", "overgrowth", "LBlazedPath$Overgrowth;", true)
  | _ => ("BlazedPath", "legs", "LBlazedPath$Legs;", true)
def tyX11 : Nat → FieldType := fun k => match k with
  | 0 => .object "BlazedPath$Tape"
  | 1 => .object "BlazedPath$Country"
  | 2 => .object "BlazedPath$Law"
  | 3 => .object "BlazedPath$LawReader"
  | 4 => .object "BlazedPath$Trip"
  | 5 => .object "BlazedPath$Trip"
  | 6 => .object "BlazedPath$Trip"
  | 7 => .boolean
  | 8 => .object "BlazedPath$Outing"
  | 9 => .object "BlazedPath$Routes"
  | 10 => .object "BlazedPath$Shifts"
  | 11 => .object "BlazedPath$Search"
  | 12 => .object "BlazedPath$Overgrowth"
  | _ => .object "BlazedPath$Legs"
theorem nmX11 : ∀ a, a < 14 → ∀ b, b < 14 → a ≠ b → (TX11 a).2.1 ≠ (TX11 b).2.1 := by decide +kernel
theorem tyX11_ok : ∀ k, k < 14 → parseFieldDescriptor (TX11 k).2.2.1 = some (tyX11 k) := by decide +kernel
def RX12 : String := "BlazedPathModel"
def TX12 : u_T := fun k => match k with
  | 0 => ("BlazedPathModel", "tape", "[B", true)
  | 1 => ("BlazedPathModel", "taped", "I", false)
  | 2 => ("BlazedPathModel", "luck", "I", false)
  | 3 => ("BlazedPathModel", "place", "I", false)
  | 4 => ("BlazedPathModel", "end", "I", false)
  | 5 => ("BlazedPathModel", "bad", "I", false)
  | 6 => ("BlazedPathModel", "clauses", "I", false)
  | 7 => ("BlazedPathModel", "codes", "I", false)
  | 8 => ("BlazedPathModel", "open", "I", false)
  | 9 => ("BlazedPathModel", "stacked", "I", false)
  | 10 => ("BlazedPathModel", "kindOf", "[I", true)
  | 11 => ("BlazedPathModel", "newKind", "[I", true)
  | 12 => ("BlazedPathModel", "filled", "I", false)
  | 13 => ("BlazedPathModel", "clauseLetter", "[I", true)
  | 14 => ("BlazedPathModel", "sumFrom", "[I", true)
  | 15 => ("BlazedPathModel", "codeFrom", "[I", true)
  | 16 => ("BlazedPathModel", "codeTo", "[I", true)
  | 17 => ("BlazedPathModel", "code", "[I", true)
  | 18 => ("BlazedPathModel", "codeArg", "[I", true)
  | 19 => ("BlazedPathModel", "clauseMany", "I", false)
  | 20 => ("BlazedPathModel", "newLetter", "[I", true)
  | 21 => ("BlazedPathModel", "newSum", "[I", true)
  | 22 => ("BlazedPathModel", "newFrom", "[I", true)
  | 23 => ("BlazedPathModel", "newTo", "[I", true)
  | 24 => ("BlazedPathModel", "newCode", "[I", true)
  | 25 => ("BlazedPathModel", "newArg", "[I", true)
  | 26 => ("BlazedPathModel", "isOver", "Z", false)
  | 27 => ("BlazedPathModel", "isBehind", "Z", false)
  | 28 => ("BlazedPathModel", "stack", "[I", true)
  | 29 => ("BlazedPathModel", "asKind", "I", false)
  | 30 => ("BlazedPathModel", "asWidth", "I", false)
  | 31 => ("BlazedPathModel", "asArm", "I", false)
  | 32 => ("BlazedPathModel", "asTired", "I", false)
  | 33 => ("BlazedPathModel", "asGrown", "I", false)
  | 34 => ("BlazedPathModel", "asSeen", "I", false)
  | 35 => ("BlazedPathModel", "asDay", "I", false)
  | 36 => ("BlazedPathModel", "worths", "[I", true)
  | 37 => ("BlazedPathModel", "isRefused", "[Z", true)
  | 38 => ("BlazedPathModel", "arms", "[I", true)
  | 39 => ("BlazedPathModel", "tiredness", "[I", true)
  | 40 => ("BlazedPathModel", "isThere", "[Z", true)
  | 41 => ("BlazedPathModel", "aheadOne", "I", false)
  | 42 => ("BlazedPathModel", "widthNow", "I", false)
  | 43 => ("BlazedPathModel", "lightNow", "I", false)
  | 44 => ("BlazedPathModel", "minuteNow", "I", false)
  | 45 => ("BlazedPathModel", "dayNow", "I", false)
  | 46 => ("BlazedPathModel", "pathMany", "I", false)
  | 47 => ("BlazedPathModel", "partyAt", "I", false)
  | 48 => ("BlazedPathModel", "cellAt", "[I", true)
  | 49 => ("BlazedPathModel", "widthAt", "[I", true)
  | 50 => ("BlazedPathModel", "grownAt", "[I", true)
  | 51 => ("BlazedPathModel", "markAt", "[I", true)
  | 52 => ("BlazedPathModel", "isStick", "[Z", true)
  | 53 => ("BlazedPathModel", "placeOf", "[I", true)
  | 54 => ("BlazedPathModel", "asideTired", "[I", true)
  | 55 => ("BlazedPathModel", "asideCell", "[I", true)
  | 56 => ("BlazedPathModel", "asideWidth", "[I", true)
  | 57 => ("BlazedPathModel", "asideGrown", "[I", true)
  | 58 => ("BlazedPathModel", "asideMark", "[I", true)
  | 59 => ("BlazedPathModel", "asideStick", "[Z", true)
  | 60 => ("BlazedPathModel", "asideMany", "[I", true)
  | 61 => ("BlazedPathModel", "asideParty", "[I", true)
  | 62 => ("BlazedPathModel", "asideAhead", "[I", true)
  | 63 => ("BlazedPathModel", "asideMinute", "[I", true)
  | 64 => ("BlazedPathModel", "asideDay", "[I", true)
  | 65 => ("BlazedPathModel", "asideLuck", "[I", true)
  | 66 => ("BlazedPathModel", "isKept", "Z", false)
  | 67 => ("BlazedPathModel", "acts", "[I", true)
  | 68 => ("BlazedPathModel", "actMany", "I", false)
  | 69 => ("BlazedPathModel", "openMany", "I", false)
  | 70 => ("BlazedPathModel", "isBegun", "Z", false)
  | 71 => ("BlazedPathModel", "openFrom", "[I", true)
  | 72 => ("BlazedPathModel", "openTimes", "[I", true)
  | 73 => ("BlazedPathModel", "openPlace", "[I", true)
  | 74 => ("BlazedPathModel", "cutMany", "I", false)
  | 75 => ("BlazedPathModel", "actsDone", "I", false)
  | 76 => ("BlazedPathModel", "isDark", "Z", false)
  | 77 => ("BlazedPathModel", "costOf", "[I", true)
  | 78 => ("BlazedPathModel", "farTo", "[I", true)
  | 79 => ("BlazedPathModel", "stepsTo", "[I", true)
  | 80 => ("BlazedPathModel", "some", "[I", true)
  | 81 => ("BlazedPathModel", "rowNow", "[I", true)
  | 82 => ("BlazedPathModel", "bestRow", "[I", true)
  | 83 => ("BlazedPathModel", "tiredThen", "[I", true)
  | 84 => ("BlazedPathModel", "rightWay", "I", false)
  | 85 => ("BlazedPathModel", "onWay", "I", false)
  | 86 => ("BlazedPathModel", "rightOff", "I", false)
  | 87 => ("BlazedPathModel", "onOff", "I", false)
  | 88 => ("BlazedPathModel", "daysOf", "[J", true)
  | _ => ("BlazedPathModel", "cutters", "[I", true)
def tyX12 : Nat → FieldType := fun k => match k with
  | 0 => .array .byte
  | 1 => .int
  | 2 => .int
  | 3 => .int
  | 4 => .int
  | 5 => .int
  | 6 => .int
  | 7 => .int
  | 8 => .int
  | 9 => .int
  | 10 => .array .int
  | 11 => .array .int
  | 12 => .int
  | 13 => .array .int
  | 14 => .array .int
  | 15 => .array .int
  | 16 => .array .int
  | 17 => .array .int
  | 18 => .array .int
  | 19 => .int
  | 20 => .array .int
  | 21 => .array .int
  | 22 => .array .int
  | 23 => .array .int
  | 24 => .array .int
  | 25 => .array .int
  | 26 => .boolean
  | 27 => .boolean
  | 28 => .array .int
  | 29 => .int
  | 30 => .int
  | 31 => .int
  | 32 => .int
  | 33 => .int
  | 34 => .int
  | 35 => .int
  | 36 => .array .int
  | 37 => .array .boolean
  | 38 => .array .int
  | 39 => .array .int
  | 40 => .array .boolean
  | 41 => .int
  | 42 => .int
  | 43 => .int
  | 44 => .int
  | 45 => .int
  | 46 => .int
  | 47 => .int
  | 48 => .array .int
  | 49 => .array .int
  | 50 => .array .int
  | 51 => .array .int
  | 52 => .array .boolean
  | 53 => .array .int
  | 54 => .array .int
  | 55 => .array .int
  | 56 => .array .int
  | 57 => .array .int
  | 58 => .array .int
  | 59 => .array .boolean
  | 60 => .array .int
  | 61 => .array .int
  | 62 => .array .int
  | 63 => .array .int
  | 64 => .array .int
  | 65 => .array .int
  | 66 => .boolean
  | 67 => .array .int
  | 68 => .int
  | 69 => .int
  | 70 => .boolean
  | 71 => .array .int
  | 72 => .array .int
  | 73 => .array .int
  | 74 => .int
  | 75 => .int
  | 76 => .boolean
  | 77 => .array .int
  | 78 => .array .int
  | 79 => .array .int
  | 80 => .array .int
  | 81 => .array .int
  | 82 => .array .int
  | 83 => .array .int
  | 84 => .int
  | 85 => .int
  | 86 => .int
  | 87 => .int
  | 88 => .array .long
  | _ => .array .int
theorem nmX12 : ∀ a, a < 90 → ∀ b, b < 90 → a ≠ b → (TX12 a).2.1 ≠ (TX12 b).2.1 := by decide +kernel
theorem tyX12_ok : ∀ k, k < 90 → parseFieldDescriptor (TX12 k).2.2.1 = some (tyX12 k) := by decide +kernel
def am_cn : List String := ["BlazedPath$Country", "BlazedPath$Law", "BlazedPath$LawReader", "BlazedPath$Legs", "BlazedPath$Outing", "BlazedPath$Overgrowth", "BlazedPath$Routes", "BlazedPath$Search", "BlazedPath$Shifts", "BlazedPath$Tape", "BlazedPath$Trip", "BlazedPath", "BlazedPathModel", "java/lang/Integer", "java/lang/Math", "java/util/Arrays", "java/lang/System", "BlazedPathLaw", "java/lang/Object"]
abbrev am_cls : List vw_C := [(RX0, TX0, 5), (RX1, TX1, 10), (RX2, TX2, 4), (RX3, TX3, 4), (RX4, TX4, 12), (RX5, TX5, 11), (RX6, TX6, 6), (RX7, TX7, 6), (RX8, TX8, 12), (RX9, TX9, 3), (RX10, TX10, 15), (RX11, TX11, 14), (RX12, TX12, 90)]
def am_ty (c : Nat) : Nat → FieldType := match c with
  | 0 => tyX0
  | 1 => tyX1
  | 2 => tyX2
  | 3 => tyX3
  | 4 => tyX4
  | 5 => tyX5
  | 6 => tyX6
  | 7 => tyX7
  | 8 => tyX8
  | 9 => tyX9
  | 10 => tyX10
  | 11 => tyX11
  | _ => tyX12
/-- the heap behind the two constructors, cell by cell in the order in which they are made: an array (type, length), or an object (class, fields: 0 int, 1 boolean, 2 a cell, put as the n-th, 3 the tape or null) -/
def am_sh : List ((Nat × Nat) ⊕ (Nat × List (Nat × Nat × Nat))) := [
  .inr (11, [(2, 14, 12), (2, 1, 13), (2, 5, 14), (2, 16, 24), (2, 26, 34), (2, 34, 44), (2, 42, 54), (1, 0, 0), (2, 50, 58), (2, 52, 65), (2, 57, 73), (2, 63, 78), (2, 68, 84), (2, 72, 85)]),
  .inr (0, [(2, 2, 0), (2, 3, 1), (2, 4, 2), (0, 0, 0), (0, 0, 0)]),
  .inl (0, 144),
  .inl (0, 144),
  .inl (0, 6),
  .inr (1, [(2, 6, 3), (2, 7, 4), (0, 0, 0), (2, 8, 5), (2, 9, 6), (2, 10, 7), (2, 11, 8), (0, 0, 0), (2, 12, 9), (2, 13, 10)]),
  .inl (0, 240),
  .inl (0, 240),
  .inl (0, 16),
  .inl (0, 16),
  .inl (0, 16),
  .inl (0, 16),
  .inl (0, 7),
  .inl (0, 40),
  .inr (9, [(2, 15, 11), (0, 0, 0), (0, 0, 0)]),
  .inl (0, 260),
  .inr (2, [(2, 17, 23), (3, 14, 0), (0, 0, 0), (0, 0, 0)]),
  .inr (1, [(2, 18, 15), (2, 19, 16), (0, 0, 0), (2, 20, 17), (2, 21, 18), (2, 22, 19), (2, 23, 20), (0, 0, 0), (2, 24, 21), (2, 25, 22)]),
  .inl (0, 240),
  .inl (0, 240),
  .inl (0, 16),
  .inl (0, 16),
  .inl (0, 16),
  .inl (0, 16),
  .inl (0, 7),
  .inl (0, 40),
  .inr (10, [(2, 1, 32), (2, 5, 33), (2, 27, 25), (2, 28, 26), (2, 29, 27), (2, 30, 28), (2, 31, 29), (2, 32, 30), (2, 33, 31), (0, 0, 0), (0, 0, 0), (0, 0, 0), (0, 0, 0), (0, 0, 0), (0, 0, 0)]),
  .inl (0, 6),
  .inl (0, 100),
  .inl (0, 100),
  .inl (0, 100),
  .inl (0, 100),
  .inl (0, 100),
  .inl (0, 144),
  .inr (10, [(2, 1, 42), (2, 5, 43), (2, 35, 35), (2, 36, 36), (2, 37, 37), (2, 38, 38), (2, 39, 39), (2, 40, 40), (2, 41, 41), (0, 0, 0), (0, 0, 0), (0, 0, 0), (0, 0, 0), (0, 0, 0), (0, 0, 0)]),
  .inl (0, 6),
  .inl (0, 100),
  .inl (0, 100),
  .inl (0, 100),
  .inl (0, 100),
  .inl (0, 100),
  .inl (0, 144),
  .inr (10, [(2, 1, 52), (2, 5, 53), (2, 43, 45), (2, 44, 46), (2, 45, 47), (2, 46, 48), (2, 47, 49), (2, 48, 50), (2, 49, 51), (0, 0, 0), (0, 0, 0), (0, 0, 0), (0, 0, 0), (0, 0, 0), (0, 0, 0)]),
  .inl (0, 6),
  .inl (0, 100),
  .inl (0, 100),
  .inl (0, 100),
  .inl (0, 100),
  .inl (0, 100),
  .inl (0, 144),
  .inr (4, [(2, 1, 56), (2, 5, 57), (2, 51, 55), (0, 0, 0), (3, 14, 0), (0, 0, 0), (0, 0, 0), (0, 0, 0), (0, 0, 0), (1, 0, 0), (0, 0, 0), (0, 0, 0)]),
  .inl (0, 90),
  .inr (6, [(2, 1, 63), (2, 5, 64), (2, 53, 59), (2, 54, 60), (2, 55, 61), (2, 56, 62)]),
  .inl (0, 144),
  .inl (2, 144),
  .inl (0, 144),
  .inl (0, 7),
  .inr (8, [(2, 1, 71), (2, 5, 72), (2, 58, 66), (0, 0, 0), (2, 59, 67), (2, 60, 68), (2, 61, 69), (2, 62, 70), (0, 0, 0), (0, 0, 0), (0, 0, 0), (0, 0, 0)]),
  .inl (0, 4),
  .inl (0, 28),
  .inl (0, 800),
  .inl (0, 6),
  .inl (0, 6),
  .inr (7, [(2, 64, 74), (2, 65, 75), (0, 0, 0), (2, 66, 76), (2, 67, 77), (0, 0, 0)]),
  .inl (0, 6),
  .inl (0, 6),
  .inl (0, 6),
  .inl (0, 6),
  .inr (5, [(2, 1, 82), (2, 5, 83), (2, 69, 79), (0, 0, 0), (0, 0, 0), (0, 0, 0), (0, 0, 0), (0, 0, 0), (2, 70, 80), (2, 71, 81), (0, 0, 0)]),
  .inl (0, 2800),
  .inl (0, 8),
  .inl (0, 8),
  .inr (3, [(0, 0, 0), (0, 0, 0), (0, 0, 0), (0, 0, 0)]),
  .inr (12, [(2, 74, 86), (0, 0, 0), (0, 0, 0), (0, 0, 0), (0, 0, 0), (0, 0, 0), (0, 0, 0), (0, 0, 0), (0, 0, 0), (0, 0, 0), (2, 75, 87), (2, 76, 88), (0, 0, 0), (2, 77, 89), (2, 78, 90), (2, 79, 91), (2, 80, 92), (2, 81, 93), (2, 82, 94), (0, 0, 0), (2, 83, 95), (2, 84, 96), (2, 85, 97), (2, 86, 98), (2, 87, 99), (2, 88, 100), (1, 0, 0), (1, 0, 0), (2, 89, 101), (0, 0, 0), (0, 0, 0), (0, 0, 0), (0, 0, 0), (0, 0, 0), (0, 0, 0), (0, 0, 0), (2, 90, 102), (2, 91, 103), (2, 92, 104), (2, 93, 105), (2, 94, 106), (0, 0, 0), (0, 0, 0), (0, 0, 0), (0, 0, 0), (0, 0, 0), (0, 0, 0), (0, 0, 0), (2, 95, 107), (2, 96, 108), (2, 97, 109), (2, 98, 110), (2, 99, 111), (2, 100, 112), (2, 101, 113), (2, 102, 114), (2, 103, 115), (2, 104, 116), (2, 105, 117), (2, 106, 118), (2, 107, 119), (2, 108, 120), (2, 109, 121), (2, 110, 122), (2, 111, 123), (2, 112, 124), (1, 0, 0), (2, 113, 125), (0, 0, 0), (0, 0, 0), (1, 0, 0), (2, 114, 126), (2, 115, 127), (2, 116, 128), (0, 0, 0), (0, 0, 0), (1, 0, 0), (2, 117, 129), (2, 118, 130), (2, 119, 131), (2, 120, 132), (2, 121, 133), (2, 122, 134), (2, 123, 135), (0, 0, 0), (0, 0, 0), (0, 0, 0), (0, 0, 0), (2, 124, 136), (2, 125, 137)]),
  .inl (1, 260),
  .inl (0, 144),
  .inl (0, 144),
  .inl (0, 16),
  .inl (0, 16),
  .inl (0, 16),
  .inl (0, 16),
  .inl (0, 240),
  .inl (0, 240),
  .inl (0, 16),
  .inl (0, 16),
  .inl (0, 16),
  .inl (0, 16),
  .inl (0, 240),
  .inl (0, 240),
  .inl (0, 240),
  .inl (0, 240),
  .inl (2, 240),
  .inl (0, 6),
  .inl (0, 6),
  .inl (2, 6),
  .inl (0, 100),
  .inl (0, 100),
  .inl (0, 100),
  .inl (0, 100),
  .inl (2, 100),
  .inl (0, 144),
  .inl (0, 12),
  .inl (0, 200),
  .inl (0, 200),
  .inl (0, 200),
  .inl (0, 200),
  .inl (2, 200),
  .inl (0, 2),
  .inl (0, 2),
  .inl (0, 2),
  .inl (0, 2),
  .inl (0, 2),
  .inl (0, 2),
  .inl (0, 90),
  .inl (0, 2),
  .inl (0, 2),
  .inl (0, 2),
  .inl (0, 7),
  .inl (0, 144),
  .inl (0, 144),
  .inl (0, 6),
  .inl (0, 6),
  .inl (0, 6),
  .inl (0, 6),
  .inl (3, 8),
  .inl (0, 256)]
/-- fields: index, class, field, place of the word -/
def am_FL : List (List (Nat × Nat × Nat × Nat)) := [
  [(11, 0, 0, 165), (15, 0, 1, 166), (18, 0, 2, 167), (21, 0, 3, 168), (25, 0, 4, 173)],
  [(11, 1, 0, 195), (15, 1, 1, 196), (36, 1, 2, 197), (18, 1, 3, 199), (21, 1, 4, 200), (24, 1, 5, 201), (27, 1, 6, 202), (40, 1, 7, 204), (30, 1, 8, 206), (33, 1, 9, 207)],
  [(63, 1, 2, 198), (49, 1, 7, 203), (12, 2, 0, 253), (18, 2, 1, 254), (22, 2, 2, 255), (26, 2, 3, 256)],
  [(9, 3, 0, 542), (15, 3, 1, 543), (18, 3, 2, 544), (21, 3, 3, 545)],
  [(171, 0, 3, 172), (116, 0, 4, 175), (153, 10, 9, 297), (183, 10, 10, 301), (110, 10, 11, 304), (78, 10, 12, 307), (162, 10, 13, 313), (15, 4, 0, 354), (19, 4, 1, 355), (11, 4, 2, 356), (34, 4, 3, 357), (23, 4, 4, 358), (27, 4, 5, 359), (31, 4, 6, 360), (83, 4, 7, 361), (86, 4, 8, 363), (89, 4, 9, 365), (100, 4, 10, 367), (103, 4, 11, 369)],
  [(83, 10, 9, 295), (40, 10, 10, 298), (61, 10, 12, 305), (31, 10, 13, 309), (23, 5, 0, 498), (27, 5, 1, 499), (13, 5, 2, 500), (37, 5, 3, 501), (80, 5, 4, 502), (103, 5, 5, 504), (106, 5, 6, 506), (109, 5, 7, 508), (17, 5, 8, 510), (20, 5, 9, 511), (112, 5, 10, 512)],
  [(41, 0, 3, 169), (35, 10, 9, 294), (51, 10, 13, 310), (27, 6, 0, 402), (31, 6, 1, 403), (11, 6, 2, 404), (17, 6, 3, 405), (21, 6, 4, 406), (24, 6, 5, 407)],
  [(11, 7, 0, 472), (15, 7, 1, 473), (24, 7, 2, 474), (18, 7, 3, 475), (21, 7, 4, 476), (41, 7, 5, 477)],
  [(57, 10, 13, 312), (27, 8, 0, 428), (31, 8, 1, 429), (11, 8, 2, 430), (47, 8, 3, 431), (15, 8, 4, 432), (18, 8, 5, 433), (21, 8, 6, 434), (24, 8, 7, 435), (51, 8, 8, 436), (66, 8, 9, 437), (62, 8, 10, 438), (63, 8, 11, 439)],
  [(9, 9, 0, 235), (13, 9, 1, 236), (17, 9, 2, 237)],
  [(85, 0, 3, 170), (151, 0, 4, 176), (42, 10, 0, 284), (46, 10, 1, 285), (11, 10, 2, 286), (17, 10, 3, 287), (20, 10, 4, 288), (23, 10, 5, 289), (26, 10, 6, 290), (29, 10, 7, 291), (32, 10, 8, 292), (35, 10, 9, 293), (60, 10, 10, 299), (63, 10, 11, 302), (66, 10, 12, 306), (69, 10, 13, 311), (39, 10, 14, 315)],
  [(146, 0, 3, 171), (149, 0, 4, 174), (341, 1, 7, 205), (139, 10, 9, 296), (213, 10, 10, 300), (169, 10, 11, 303), (335, 10, 12, 308), (298, 10, 13, 314), (332, 10, 14, 316), (163, 4, 7, 362), (166, 4, 8, 364), (175, 4, 9, 366), (234, 4, 10, 368), (237, 4, 11, 370), (257, 8, 11, 440), (292, 7, 5, 478), (267, 5, 4, 503), (270, 5, 5, 505), (273, 5, 6, 507), (276, 5, 7, 509), (16, 11, 0, 555), (22, 11, 1, 556), (26, 11, 2, 557), (33, 11, 3, 558), (42, 11, 4, 559), (46, 11, 5, 560), (49, 11, 6, 561), (52, 11, 7, 562), (59, 11, 8, 563), (66, 11, 9, 564), (73, 11, 10, 565), (80, 11, 11, 566), (87, 11, 12, 567), (94, 11, 13, 568)],
  [(7, 12, 0, 1364), (186, 12, 1, 1365), (13, 12, 2, 1366), (192, 12, 3, 1367), (195, 12, 4, 1368), (198, 12, 5, 1369), (321, 12, 6, 1370), (253, 12, 7, 1371), (259, 12, 8, 1372), (256, 12, 9, 1373), (17, 12, 10, 1374), (21, 12, 11, 1375), (235, 12, 12, 1376), (24, 12, 13, 1377), (27, 12, 14, 1378), (30, 12, 15, 1379), (33, 12, 16, 1380), (36, 12, 17, 1381), (39, 12, 18, 1382), (332, 12, 19, 1383), (42, 12, 20, 1384), (45, 12, 21, 1385), (48, 12, 22, 1386), (51, 12, 23, 1387), (54, 12, 24, 1388), (57, 12, 25, 1389), (312, 12, 26, 1390), (291, 12, 27, 1391), (60, 12, 28, 1392), (335, 12, 29, 1393), (338, 12, 30, 1394), (341, 12, 31, 1395), (344, 12, 32, 1396), (347, 12, 33, 1397), (350, 12, 34, 1398), (353, 12, 35, 1399), (63, 12, 36, 1400), (66, 12, 37, 1401), (70, 12, 38, 1402), (73, 12, 39, 1403), (76, 12, 40, 1404), (79, 12, 41, 1405), (82, 12, 42, 1406), (85, 12, 43, 1407), (422, 12, 44, 1408), (373, 12, 45, 1409), (394, 12, 46, 1410), (397, 12, 47, 1411), (88, 12, 48, 1412), (91, 12, 49, 1413), (94, 12, 50, 1414), (97, 12, 51, 1415), (100, 12, 52, 1416), (103, 12, 53, 1417), (106, 12, 54, 1418), (109, 12, 55, 1419), (112, 12, 56, 1420), (115, 12, 57, 1421), (118, 12, 58, 1422), (121, 12, 59, 1423), (124, 12, 60, 1424), (127, 12, 61, 1425), (130, 12, 62, 1426), (133, 12, 63, 1427), (136, 12, 64, 1428), (139, 12, 65, 1429), (249, 12, 66, 1430), (142, 12, 67, 1431), (425, 12, 68, 1432), (433, 12, 69, 1433), (436, 12, 70, 1434), (145, 12, 71, 1435), (148, 12, 72, 1436), (151, 12, 73, 1437), (464, 12, 74, 1438), (491, 12, 75, 1439), (452, 12, 76, 1440), (154, 12, 77, 1441), (157, 12, 78, 1442), (160, 12, 79, 1443), (163, 12, 80, 1444), (166, 12, 81, 1445), (169, 12, 82, 1446), (172, 12, 83, 1447), (588, 12, 84, 1448), (594, 12, 85, 1449), (591, 12, 86, 1450), (597, 12, 87, 1451), (175, 12, 88, 1452), (179, 12, 89, 1453)],
  [],
  [],
  [],
  [],
  [],
  []]
/-- methods: index, method (10000 Object.<init>, 10001 arraycopy), whether by the nest, place of the word -/
def am_ML : List (List (Nat × Nat × Nat × Nat)) := [
  [(3, 10000, 0, 161), (28, 2, 0, 162), (54, 23, 0, 626), (59, 24, 1, 630), (62, 25, 0, 633), (65, 26, 0, 637), (79, 27, 0, 641), (82, 28, 1, 644), (85, 29, 0, 647), (34, 9, 0, 651), (69, 10001, 0, 652), (75, 30, 0, 655), (38, 56, 0, 761), (42, 63, 0, 787), (45, 89, 0, 896), (51, 62, 0, 899)],
  [(3, 10000, 0, 194), (43, 10001, 0, 752), (49, 84, 0, 873), (53, 85, 0, 877), (57, 86, 0, 881), (60, 60, 0, 885), (65, 61, 0, 886)],
  [(3, 10000, 0, 250), (11, 3, 1, 252), (29, 35, 0, 676), (32, 36, 0, 680), (35, 37, 0, 684), (52, 23, 0, 688), (59, 38, 0, 689), (41, 39, 0, 692), (55, 24, 1, 696), (66, 40, 0, 697), (95, 41, 0, 701), (98, 42, 0, 705), (92, 43, 0, 709), (69, 44, 0, 713), (104, 45, 0, 717), (82, 46, 0, 720), (107, 28, 1, 724), (101, 47, 0, 725), (72, 48, 0, 728), (79, 49, 0, 732), (89, 50, 0, 736), (85, 51, 0, 740), (75, 52, 0, 744), (45, 53, 0, 748)],
  [(3, 10000, 0, 541), (24, 23, 0, 1239), (30, 28, 1, 1240), (34, 24, 1, 1241), (38, 162, 0, 1242)],
  [(3, 10000, 0, 353), (37, 69, 0, 811), (58, 70, 0, 815), (41, 71, 0, 819), (51, 23, 0, 823), (61, 72, 0, 824), (47, 73, 0, 828), (54, 24, 1, 832), (72, 74, 0, 833), (69, 75, 0, 837), (65, 76, 0, 841), (75, 77, 0, 844), (93, 79, 0, 851), (121, 80, 0, 855), (143, 81, 0, 859), (186, 62, 0, 863), (159, 82, 0, 864), (156, 63, 0, 868), (195, 83, 0, 869), (178, 59, 0, 887), (125, 87, 0, 888), (199, 88, 0, 892), (128, 90, 0, 900), (202, 91, 0, 904), (205, 92, 0, 908), (131, 93, 0, 912), (208, 94, 0, 916), (211, 95, 0, 920), (134, 96, 0, 924), (137, 31, 0, 928), (140, 97, 0, 929), (113, 98, 0, 932), (147, 103, 0, 955), (189, 55, 0, 959), (192, 104, 0, 960), (150, 56, 0, 964), (165, 105, 0, 965), (174, 106, 0, 969), (181, 8, 0, 973), (97, 116, 0, 1098), (106, 133, 0, 1099)],
  [(7, 10000, 0, 497), (43, 101, 0, 992), (47, 111, 0, 993), (67, 99, 0, 997), (70, 100, 0, 998), (73, 112, 0, 999), (51, 60, 0, 1003), (57, 113, 0, 1004), (64, 114, 0, 1008), (86, 63, 0, 1223), (89, 82, 0, 1224), (92, 106, 0, 1225), (96, 102, 0, 1226), (99, 159, 0, 1227), (115, 23, 0, 1288), (120, 174, 0, 1293)],
  [(3, 10000, 0, 401), (44, 63, 0, 1111), (48, 82, 0, 1112), (54, 106, 0, 1113), (60, 136, 0, 1114), (82, 2, 0, 1119), (72, 9, 0, 1120), (88, 137, 0, 1121), (92, 138, 0, 1125), (95, 139, 0, 1129), (76, 56, 0, 1133), (79, 55, 0, 1134), (64, 140, 0, 1135), (98, 97, 0, 1139), (68, 141, 0, 1140), (101, 144, 0, 1152)],
  [(3, 10000, 0, 471), (28, 23, 0, 1258), (34, 9, 0, 1259), (44, 167, 0, 1265), (48, 10001, 0, 1269), (54, 168, 0, 1270), (58, 169, 0, 1273)],
  [(3, 10000, 0, 427), (35, 148, 0, 1168), (41, 149, 0, 1172), (69, 2, 0, 1182), (75, 82, 0, 1183), (78, 63, 0, 1184), (81, 61, 0, 1185), (87, 151, 0, 1186), (91, 152, 0, 1190), (101, 10001, 0, 1194), (54, 153, 0, 1195), (95, 154, 0, 1199), (98, 155, 0, 1203), (107, 105, 0, 1207), (113, 83, 0, 1208), (117, 60, 0, 1209)],
  [(1, 10000, 0, 234)],
  [(3, 10000, 0, 271), (50, 7, 0, 272), (72, 2, 0, 276), (78, 8, 0, 277), (81, 9, 0, 281), (88, 32, 0, 663), (98, 60, 0, 777), (104, 61, 0, 780), (122, 91, 0, 936), (125, 99, 0, 937), (91, 31, 0, 941), (95, 56, 0, 942), (126, 100, 0, 943), (129, 101, 0, 947), (138, 102, 0, 951), (54, 10001, 0, 982), (142, 98, 0, 1020), (116, 118, 0, 1025), (107, 97, 0, 1029), (110, 104, 0, 1030), (113, 119, 0, 1031), (145, 121, 0, 1039), (119, 94, 0, 1043), (132, 125, 0, 1059), (148, 129, 0, 1075), (155, 124, 0, 1080)],
  [(1, 10000, 0, 153), (9, 1, 0, 158), (12, 3, 1, 191), (15, 4, 1, 231), (32, 5, 1, 247), (39, 6, 0, 268), (58, 10, 0, 350), (65, 11, 0, 398), (72, 12, 0, 424), (79, 13, 1, 468), (86, 14, 0, 494), (93, 15, 1, 538), (98, 17, 0, 602), (102, 18, 0, 606), (106, 19, 0, 610), (110, 21, 0, 618), (114, 22, 0, 622), (118, 31, 0, 659), (122, 7, 0, 667), (125, 34, 0, 672), (129, 55, 0, 757), (132, 58, 0, 769), (136, 59, 0, 773), (143, 62, 0, 783), (152, 68, 0, 807), (155, 78, 0, 847), (159, 108, 0, 978), (172, 82, 0, 983), (178, 110, 0, 988), (182, 116, 0, 1016), (185, 117, 0, 1021), (188, 120, 0, 1035), (191, 122, 0, 1044), (198, 121, 0, 1054), (201, 124, 0, 1055), (206, 126, 0, 1064), (210, 128, 0, 1071), (216, 101, 0, 1085), (219, 100, 0, 1086), (222, 91, 0, 1087), (225, 94, 0, 1088), (228, 118, 0, 1089), (231, 132, 0, 1094), (240, 135, 0, 1107), (244, 143, 0, 1148), (247, 145, 0, 1156), (250, 147, 0, 1164), (253, 150, 0, 1178), (260, 156, 0, 1210), (263, 158, 0, 1218), (279, 161, 0, 1235), (283, 163, 0, 1246), (286, 165, 0, 1254), (290, 166, 0, 1260), (295, 170, 0, 1276), (301, 172, 0, 1284), (305, 173, 0, 1289), (308, 175, 0, 1297), (311, 176, 0, 1301), (314, 23, 0, 1309), (317, 178, 0, 1310), (320, 24, 0, 1313), (324, 179, 0, 1314), (347, 180, 0, 1318), (328, 63, 0, 1326), (338, 148, 0, 1348), (344, 56, 0, 1349)],
  [(1, 10000, 0, 1355), (182, 188, 0, 1356), (400, 189, 0, 1360), (189, 191, 0, 1641), (209, 193, 0, 1650), (243, 194, 0, 1653), (221, 195, 0, 1657), (246, 196, 0, 1661), (201, 197, 0, 1665), (228, 198, 0, 1669), (217, 199, 0, 1672), (238, 200, 0, 1676), (213, 201, 0, 1680), (232, 202, 0, 1686), (329, 204, 0, 1695), (300, 205, 0, 1699), (294, 206, 0, 1703), (278, 207, 0, 1707), (262, 208, 0, 1711), (281, 209, 0, 1715), (275, 210, 0, 1719), (284, 211, 0, 1723), (297, 212, 0, 1726), (268, 213, 0, 1730), (272, 214, 0, 1733), (287, 215, 0, 1736), (265, 216, 0, 1740), (324, 217, 0, 1744), (315, 218, 0, 1748), (303, 219, 0, 1752), (306, 220, 0, 1755), (318, 221, 0, 1759), (309, 222, 0, 1763), (387, 225, 0, 1777), (403, 230, 0, 1799), (416, 232, 0, 1807), (410, 233, 0, 1811), (413, 234, 0, 1815), (419, 235, 0, 1819), (499, 237, 0, 1828), (449, 238, 0, 1832), (439, 239, 0, 1836), (443, 240, 0, 1840), (446, 241, 0, 1845), (430, 242, 0, 1848), (502, 243, 0, 1851), (494, 244, 0, 1855), (479, 245, 0, 1859), (467, 246, 0, 1863), (470, 247, 0, 1866), (406, 248, 0, 1870), (376, 249, 0, 1874), (380, 250, 0, 1878), (366, 251, 0, 1882), (360, 252, 0, 1886), (356, 253, 0, 1890), (363, 254, 0, 1893), (369, 255, 0, 1897), (461, 256, 0, 1900), (473, 257, 0, 1904), (455, 258, 0, 1908), (458, 259, 0, 1912), (482, 260, 0, 1916), (476, 261, 0, 1920), (485, 262, 0, 1924), (488, 263, 0, 1928), (505, 265, 0, 1936), (508, 266, 0, 1940), (513, 268, 0, 1949), (517, 270, 0, 1957), (522, 269, 0, 1966), (527, 272, 0, 1968), (532, 273, 0, 1973), (537, 275, 0, 1980), (546, 278, 0, 1994), (541, 279, 0, 1999), (549, 281, 0, 2007), (556, 283, 0, 2017), (559, 284, 0, 2020), (562, 285, 0, 2024), (566, 286, 0, 2027), (569, 287, 0, 2030), (572, 288, 0, 2034), (575, 289, 0, 2038), (584, 291, 0, 2049), (602, 293, 0, 2058), (605, 295, 0, 2066), (611, 296, 0, 2070), (614, 297, 0, 2074), (608, 298, 0, 2078), (622, 300, 0, 2086), (626, 301, 0, 2090), (630, 302, 0, 2094), (617, 303, 0, 2098), (638, 305, 0, 2107), (641, 306, 0, 2110), (633, 307, 0, 2114)],
  [],
  [],
  [],
  [],
  [(9, 0, 0, 150), (13, 16, 0, 598), (18, 20, 0, 614), (23, 33, 0, 668), (27, 54, 0, 753), (32, 57, 0, 765), (37, 64, 0, 791), (41, 65, 0, 795), (45, 66, 0, 799), (49, 67, 0, 803), (53, 107, 0, 974), (58, 109, 0, 984), (62, 115, 0, 1012), (66, 123, 0, 1048), (71, 127, 0, 1067), (76, 130, 0, 1081), (80, 131, 0, 1090), (84, 134, 0, 1103), (89, 142, 0, 1144), (93, 146, 0, 1160), (97, 157, 0, 1214), (102, 160, 0, 1231), (106, 164, 0, 1250), (110, 171, 0, 1280), (114, 177, 0, 1305), (118, 181, 0, 1322), (122, 182, 0, 1327), (126, 183, 0, 1332), (130, 184, 0, 1336), (135, 185, 0, 1340), (139, 186, 0, 1344), (12, 187, 0, 1352), (17, 190, 0, 1637), (22, 192, 0, 1645), (26, 203, 0, 1690), (36, 223, 0, 1767), (40, 224, 0, 1773), (44, 226, 0, 1781), (48, 227, 0, 1786), (121, 228, 0, 1791), (31, 229, 0, 1795), (79, 231, 0, 1803), (52, 236, 0, 1823), (57, 264, 0, 1932), (61, 267, 0, 1944), (65, 269, 0, 1953), (70, 271, 0, 1961), (75, 274, 0, 1976), (83, 276, 0, 1985), (88, 277, 0, 1989), (92, 280, 0, 2003), (96, 282, 0, 2011), (101, 290, 0, 2042), (105, 292, 0, 2053), (109, 294, 0, 2062), (113, 299, 0, 2081), (117, 304, 0, 2102), (125, 308, 0, 2118), (129, 309, 0, 2123), (134, 310, 0, 2127), (138, 311, 0, 2131), (142, 312, 0, 2136)],
  []]
def am_CL : List (List (Nat × Nat × Nat)) := [
  [],
  [],
  [(9, 1, 251)],
  [],
  [],
  [],
  [],
  [],
  [],
  [],
  [],
  [(7, 0, 156), (10, 1, 189), (13, 9, 229), (30, 2, 245), (37, 10, 266), (56, 4, 348), (63, 6, 396), (70, 8, 422), (77, 7, 466), (84, 5, 492), (91, 3, 536)],
  [],
  [],
  [],
  [],
  [],
  [(7, 11, 148), (10, 12, 1350)],
  []]
def am_KC : List (List (Nat × Int × Nat)) := [
  [],
  [],
  [],
  [],
  [],
  [(79, 1000000000, 1222)],
  [(67, 1000000000, 1118)],
  [(40, 1000000000, 1264)],
  [],
  [],
  [(154, 65535, 1079)],
  [(331, 65535, 1331)],
  [(536, 65536, 1984), (540, 1000000000, 1998)],
  [(265, 1431655765, 1175), (266, 858993459, 1176), (267, 252645135, 1177)],
  [],
  [],
  [],
  [],
  []]
def am_KL : List (List (Nat × Int × Nat)) := [
  [],
  [],
  [],
  [],
  [],
  [],
  [],
  [],
  [],
  [],
  [],
  [(194, -1, 1052), (196, -3, 1053), (204, 10, 1063)],
  [(241, 200, 1649), (205, 48, 1684), (207, 57, 1685), (327, 240, 1694), (383, 5, 1771), (385, 9, 1772), (390, 4, 1785), (392, 999, 1790), (224, 143, 1802), (226, 11, 1814), (497, 80, 1827), (428, 50, 1844), (511, 60, 1948), (520, -1, 1965), (525, -3, 1967), (530, 10, 1972), (544, 2, 1993), (552, 6, 2015), (554, 63, 2016), (578, 99, 2046), (580, 30, 2047), (582, 3, 2048), (600, 40, 2057), (620, 8, 2085), (636, 20, 2106), (644, 65535, 2122), (646, 100, 2135)],
  [],
  [],
  [],
  [],
  [],
  []]
/-- places of words: initialized by class; instantiable (slots, place) -/
def am_in : List Nat := [132, 134, 136, 143, 138, 142, 139, 141, 140, 135, 137, 131, 144, 147, 146, 133, 145, 130, 130]
def am_is : List Nat := [157, 190, 246, 537, 349, 493, 397, 467, 423, 230, 267, 149, 1351]
def am_ar : List (FieldType × Nat) := [(.int, 188), (.byte, 1635), (.boolean, 421), (.long, 1636)]
