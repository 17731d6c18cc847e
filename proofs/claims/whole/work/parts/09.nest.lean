/-- links between nest mates that the methods (not the constructors) use -/
def xNestM : List (String × Nat × MethodName × String) := [("OldLight$Bay", 79, yX8_has, "OldLight"), ("OldLight$Chart", 39, yX8_has, "OldLight")]
def xNestF : List (String × Nat × String × String × String × String) := [("OldLight$Speaker", 36, "OldLight", "ABOVE", "[I", "OldLight")]
