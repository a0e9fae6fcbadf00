/-- an instruction with its length, four numbers that say what its pool entry is, and a switch's targets -/
abbrev EN : Type := Instr × Nat × Nat × Nat × Nat × Nat × List (Int × Nat)
/-- a program: pieces of a method's code, by number of method -/
abbrev PG : Type := Nat → List (List (Nat × EN))
