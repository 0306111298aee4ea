/-! THE LAW HOLDS on the shadow machine -/
theorem sx_law_ok (S : List Int32) (hS : S.length ≤ 260) : sx_lawOk S := by
  obtain ⟨h, e1, e2, e3⟩ := L_A hS
  exact ⟨h, e1.trans (by rw [show sz 1 = (1 : Int32) from rfl]), e2, by omega⟩
