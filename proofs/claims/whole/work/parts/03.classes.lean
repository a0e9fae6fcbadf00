/-! printed by a program (wip/whole/gen03.py): the classes, the program of the small machine, its links -/
def kT0 : u_T := fun k => match k with
  | 0 => ("OneAtATime$BitList", "steps", "[I", true)
  | 1 => ("OneAtATime$BitList", "words", "[I", true)
  | 2 => ("OneAtATime$BitList", "exists", "Z", false)
  | 3 => ("OneAtATime$BitList", "width", "I", false)
  | 4 => ("OneAtATime$BitList", "low", "I", false)
  | 5 => ("OneAtATime$BitList", "high", "I", false)
  | _ => ("OneAtATime$BitList", "size", "I", false)
def kY0 : Nat → FieldType := fun k => match k with
  | 0 => .array (.int)
  | 1 => .array (.int)
  | 2 => .boolean
  | 3 => .int
  | 4 => .int
  | 5 => .int
  | _ => .int
def kT1 : u_T := fun k => match k with
  | 0 => ("OneAtATime$Bytes", "row", "[B", true)
  | _ => ("OneAtATime$Bytes", "length", "I", false)
def kY1 : Nat → FieldType := fun k => match k with
  | 0 => .array (.byte)
  | _ => .int
def kT2 : u_T := fun k => match k with
  | 0 => ("OneAtATime$Evenness", "told", "[I", true)
  | 1 => ("OneAtATime$Evenness", "cut", "[I", true)
  | 2 => ("OneAtATime$Evenness", "left", "[I", true)
  | 3 => ("OneAtATime$Evenness", "least", "I", false)
  | _ => ("OneAtATime$Evenness", "leastCuts", "J", false)
def kY2 : Nat → FieldType := fun k => match k with
  | 0 => .array (.int)
  | 1 => .array (.int)
  | 2 => .array (.int)
  | 3 => .int
  | _ => .long
def kT3 : u_T := fun k => match k with
  | 0 => ("OneAtATime$History", "kept", "[LOneAtATime$BitList;", true)
  | 1 => ("OneAtATime$History", "slotOf", "[I", true)
  | 2 => ("OneAtATime$History", "next", "I", false)
  | _ => ("OneAtATime$History", "depth", "I", false)
def kY3 : Nat → FieldType := fun k => match k with
  | 0 => .array (.object "OneAtATime$BitList")
  | 1 => .array (.int)
  | 2 => .int
  | _ => .int
def kT4 : u_T := fun k => match k with
  | 0 => ("OneAtATime$Likeness", "toTwo", "[I", true)
  | _ => ("OneAtATime$Likeness", "toOne", "[I", true)
def kY4 : Nat → FieldType := fun k => match k with
  | 0 => .array (.int)
  | _ => .array (.int)
def kT5 : u_T := fun k => match k with
  | 0 => ("OneAtATime$Reader", "tape", "LOneAtATime$Bytes;", true)
  | 1 => ("OneAtATime$Reader", "kind", "I", false)
  | 2 => ("OneAtATime$Reader", "from", "I", false)
  | 3 => ("OneAtATime$Reader", "to", "I", false)
  | 4 => ("OneAtATime$Reader", "fault", "I", false)
  | _ => ("OneAtATime$Reader", "place", "I", false)
def kY5 : Nat → FieldType := fun k => match k with
  | 0 => .object "OneAtATime$Bytes"
  | 1 => .int
  | 2 => .int
  | 3 => .int
  | 4 => .int
  | _ => .int
def kT6 : u_T := fun k => match k with
  | 0 => ("OneAtATime$Search", "barred", "[I", true)
  | 1 => ("OneAtATime$Search", "nextBit", "[I", true)
  | _ => ("OneAtATime$Search", "highestRung", "[I", true)
def kY6 : Nat → FieldType := fun k => match k with
  | 0 => .array (.int)
  | 1 => .array (.int)
  | _ => .array (.int)
def kT7 : u_T := fun k => match k with
  | 0 => ("OneAtATime$Survey", "timesShown", "[I", true)
  | 1 => ("OneAtATime$Survey", "placeOf", "[I", true)
  | 2 => ("OneAtATime$Survey", "distance", "[I", true)
  | 3 => ("OneAtATime$Survey", "queue", "[I", true)
  | _ => ("OneAtATime$Survey", "farthest", "[I", true)
def kY7 : Nat → FieldType := fun k => match k with
  | 0 => .array (.int)
  | 1 => .array (.int)
  | 2 => .array (.int)
  | 3 => .array (.int)
  | _ => .array (.int)
def kT8 : u_T := fun k => match k with
  | 0 => ("OneAtATime", "slots", "[LOneAtATime$BitList;", true)
  | 1 => ("OneAtATime", "draft", "LOneAtATime$BitList;", true)
  | 2 => ("OneAtATime", "history", "LOneAtATime$History;", true)
  | 3 => ("OneAtATime", "reader", "LOneAtATime$Reader;", true)
  | 4 => ("OneAtATime", "out", "LOneAtATime$Bytes;", true)
  | 5 => ("OneAtATime", "survey", "LOneAtATime$Survey;", true)
  | 6 => ("OneAtATime", "search", "LOneAtATime$Search;", true)
  | 7 => ("OneAtATime", "likeness", "LOneAtATime$Likeness;", true)
  | _ => ("OneAtATime", "evenness", "LOneAtATime$Evenness;", true)
def kY8 : Nat → FieldType := fun k => match k with
  | 0 => .array (.object "OneAtATime$BitList")
  | 1 => .object "OneAtATime$BitList"
  | 2 => .object "OneAtATime$History"
  | 3 => .object "OneAtATime$Reader"
  | 4 => .object "OneAtATime$Bytes"
  | 5 => .object "OneAtATime$Survey"
  | 6 => .object "OneAtATime$Search"
  | 7 => .object "OneAtATime$Likeness"
  | _ => .object "OneAtATime$Evenness"
def kT9 : u_T := fun k => match k with
  | 0 => ("OneAtATimeModel", "row", "[I", true)
  | 1 => ("OneAtATimeModel", "was", "[I", true)
  | 2 => ("OneAtATimeModel", "kept", "[I", true)
  | 3 => ("OneAtATimeModel", "keptMany", "I", false)
  | 4 => ("OneAtATimeModel", "made", "[I", true)
  | 5 => ("OneAtATimeModel", "madeMany", "I", false)
  | 6 => ("OneAtATimeModel", "tape", "[I", true)
  | 7 => ("OneAtATimeModel", "taped", "I", false)
  | 8 => ("OneAtATimeModel", "faultKind", "I", false)
  | 9 => ("OneAtATimeModel", "faultPlace", "I", false)
  | 10 => ("OneAtATimeModel", "spot", "I", false)
  | 11 => ("OneAtATimeModel", "begin", "I", false)
  | 12 => ("OneAtATimeModel", "token", "I", false)
  | 13 => ("OneAtATimeModel", "value", "I", false)
  | 14 => ("OneAtATimeModel", "bad", "Z", false)
  | 15 => ("OneAtATimeModel", "word", "[I", true)
  | 16 => ("OneAtATimeModel", "times", "[I", true)
  | 17 => ("OneAtATimeModel", "shown", "I", false)
  | 18 => ("OneAtATimeModel", "isLoop", "Z", false)
  | 19 => ("OneAtATimeModel", "isGone", "[Z", true)
  | 20 => ("OneAtATimeModel", "path", "[I", true)
  | 21 => ("OneAtATimeModel", "tried", "I", false)
  | 22 => ("OneAtATimeModel", "scope", "I", false)
  | 23 => ("OneAtATimeModel", "law", "I", false)
  | 24 => ("OneAtATimeModel", "far", "[I", true)
  | 25 => ("OneAtATimeModel", "nameA", "[I", true)
  | 26 => ("OneAtATimeModel", "nameB", "[I", true)
  | 27 => ("OneAtATimeModel", "out", "[I", true)
  | _ => ("OneAtATimeModel", "outs", "I", false)
def kY9 : Nat → FieldType := fun k => match k with
  | 0 => .array (.int)
  | 1 => .array (.int)
  | 2 => .array (.int)
  | 3 => .int
  | 4 => .array (.int)
  | 5 => .int
  | 6 => .array (.int)
  | 7 => .int
  | 8 => .int
  | 9 => .int
  | 10 => .int
  | 11 => .int
  | 12 => .int
  | 13 => .int
  | 14 => .boolean
  | 15 => .array (.int)
  | 16 => .array (.int)
  | 17 => .int
  | 18 => .boolean
  | 19 => .array (.boolean)
  | 20 => .array (.int)
  | 21 => .int
  | 22 => .int
  | 23 => .int
  | 24 => .array (.int)
  | 25 => .array (.int)
  | 26 => .array (.int)
  | 27 => .array (.int)
  | _ => .int
abbrev cls0 : List vw_C := [("OneAtATime$BitList", kT0, 7), ("OneAtATime$Bytes", kT1, 2), ("OneAtATime$Evenness", kT2, 5), ("OneAtATime$History", kT3, 4), ("OneAtATime$Likeness", kT4, 2), ("OneAtATime$Reader", kT5, 6), ("OneAtATime$Search", kT6, 3), ("OneAtATime$Survey", kT7, 5), ("OneAtATime", kT8, 9), ("OneAtATimeModel", kT9, 29)]
/-- kinds of fields: 0 a number, 1 a truth, 2 a reference, 3 a long -/
def fkL : List (List Nat) := [[2, 2, 1, 0, 0, 0, 0], [2, 0], [2, 2, 2, 0, 3], [2, 2, 0, 0], [2, 2], [2, 0, 0, 0, 0, 0], [2, 2, 2], [2, 2, 2, 2, 2], [2, 2, 2, 2, 2, 2, 2, 2, 2], [2, 2, 2, 0, 2, 0, 2, 0, 0, 0, 0, 0, 0, 0, 1, 2, 2, 0, 1, 2, 2, 0, 0, 0, 2, 2, 2, 2, 0]]
def ownL : List String := ["OneAtATime", "OneAtATime$BitList", "OneAtATime$History", "OneAtATime$Reader", "OneAtATime$Bytes", "java/lang/Math", "OneAtATime$Survey", "OneAtATime$Search", "OneAtATime$Likeness", "OneAtATime$Evenness", "java/util/Arrays", "java/lang/Integer", "OneAtATime$Maker", "java/lang/Long", "OneAtATimeModel", "OneAtATimeLaw"]
abbrev MR : Type := Nat × MethodName × ByteArray × Nat × Option FieldType × List (List (Nat × EN))
