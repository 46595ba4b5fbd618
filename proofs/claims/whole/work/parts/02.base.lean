/-! THE LIGHT MACHINE: a small pure machine over the claim's own code; objects by numbers in the order of their making; ints, longs and references each in a function of (cell, place) -/
/-- an instruction: group, member, a number, an integer, targets -/
abbrev Li : Type := Nat × Nat × Nat × Int × List Nat
/-- a chunked code: (bound, rows (pc, instruction, length)) -/
abbrev Lc : Type := List (Nat × List (Nat × Li × Nat))
def lc_row (pc : Nat) : List (Nat × Li × Nat) → Option (Li × Nat)
  | [] => none
  | q :: r => bif Nat.beq q.1 pc then some q.2 else lc_row pc r
def lc_at (pc : Nat) : Lc → Option (Li × Nat)
  | [] => none
  | q :: r => bif Nat.blt pc q.1 then lc_row pc q.2 else lc_at pc r
/-- what a number's entry in a class's pool means: tag, a, b -/
abbrev Lk : Type := Nat × Nat × Nat
