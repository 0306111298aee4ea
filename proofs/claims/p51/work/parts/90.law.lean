/-! THE LAW HOLDS on the shadow machine: still open -/
theorem sx_law_ok (S : List Int32) (hS : S.length ≤ 260) : sx_lawOk S := by
  sorry
