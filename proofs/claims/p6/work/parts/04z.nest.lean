noncomputable def am_nst : List (String × Nat × MethodName × String) := [("PaceBorder$Past", 49, yX8_isCrown, "PaceBorder")]
