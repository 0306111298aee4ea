/-! EQUATIONS of the methods 120 to 120: printed by wip/p51/gen2.py -/
/-- 120: L_broken_ (C[III)I -/
theorem c120_q (S : List Int32) : ∀ (a0 : Int32) (a1 : Nat) (a2 : Int32) (a3 : Int32) (h : sx_H), sx_Cl S 120 [.int a0, .ref a1, .int a2, .int a3] h = sx_Ev S 120 0 [some (.int a0), some (.ref a1), some (.int a2), some (.int a3), none, none, none, none, none, none, none, none] [] h := fun _ _ _ _ _ => rfl
set_option maxRecDepth 100000 in
theorem h120_6 (S : List Int32) : (∀ (l0 l1 l2 l3 l4 l6 l7 l8 l9 l10 l11 : Option Value) (x : Int32) (h : sx_H), sx_Ev S 120 6 [l0, l1, l2, l3, l4, some (.int x), l6, l7, l8, l9, l10, l11] [] h = sx_Ev S 120 8 [l0, l1, l2, l3, l4, some (.int x), l6, l7, l8, l9, l10, l11] [.int x] h) := fun _ _ _ _ _ _ _ _ _ _ _ _ _ => sx_e_nx rfl rfl
set_option maxRecDepth 100000 in
theorem h120_16 (S : List Int32) : (∀ (l0 l1 l2 l3 l4 l5 l7 l8 l9 l10 l11 : Option Value) (x : Int32) (h : sx_H), sx_Ev S 120 16 [l0, l1, l2, l3, l4, l5, some (.int x), l7, l8, l9, l10, l11] [] h = sx_Ev S 120 18 [l0, l1, l2, l3, l4, l5, some (.int x), l7, l8, l9, l10, l11] [.int x] h) := fun _ _ _ _ _ _ _ _ _ _ _ _ _ => sx_e_nx rfl rfl
set_option maxRecDepth 100000 in
theorem q120_0 (S : List Int32) : (∀ (l0 l1 l2 l3 l4 l5 l6 l7 l8 l9 l10 l11 : Option Value) (h : sx_H), sx_Ev S 120 0 [l0, l1, l2, l3, l4, l5, l6, l7, l8, l9, l10, l11] [] h = sx_Ev S 120 1 [l0, l1, l2, l3, l4, l5, l6, l7, l8, l9, l10, l11] [.int (sz (0))] h) ∧
  (∀ (l0 l1 l2 l3 l4 l5 l6 l7 l8 l9 l10 l11 : Option Value) (s0 : Int32) (h : sx_H), sx_Ev S 120 1 [l0, l1, l2, l3, l4, l5, l6, l7, l8, l9, l10, l11] [.int s0] h = sx_Ev S 120 3 [l0, l1, l2, l3, some (.int s0), l5, l6, l7, l8, l9, l10, l11] [] h) ∧
  (∀ (l0 l1 l2 l3 l4 l5 l6 l7 l8 l9 l10 l11 : Option Value) (h : sx_H), sx_Ev S 120 3 [l0, l1, l2, l3, l4, l5, l6, l7, l8, l9, l10, l11] [] h = sx_Ev S 120 4 [l0, l1, l2, l3, l4, l5, l6, l7, l8, l9, l10, l11] [.int (sz (0))] h) ∧
  (∀ (l0 l1 l2 l3 l4 l5 l6 l7 l8 l9 l10 l11 : Option Value) (s0 : Int32) (h : sx_H), sx_Ev S 120 4 [l0, l1, l2, l3, l4, l5, l6, l7, l8, l9, l10, l11] [.int s0] h = sx_Ev S 120 6 [l0, l1, l2, l3, l4, some (.int s0), l6, l7, l8, l9, l10, l11] [] h) ∧
  (∀ (l0 l2 l3 l4 l5 l6 l7 l8 l9 l10 l11 : Option Value) (s0 : Int32) (x : Nat) (h : sx_H), sx_Ev S 120 8 [l0, some (.ref x), l2, l3, l4, l5, l6, l7, l8, l9, l10, l11] [.int s0] h = sx_Ev S 120 9 [l0, some (.ref x), l2, l3, l4, l5, l6, l7, l8, l9, l10, l11] [.ref x, .int s0] h) ∧
  (∀ (l0 l1 l2 l3 l4 l5 l6 l7 l8 l9 l10 l11 : Option Value) (s0 : Nat) (s1 : Int32) (h : sx_H), sx_Ev S 120 9 [l0, l1, l2, l3, l4, l5, l6, l7, l8, l9, l10, l11] [.ref s0, .int s1] h = (sx_ints S h s0).bind fun v => sx_Ev S 120 10 [l0, l1, l2, l3, l4, l5, l6, l7, l8, l9, l10, l11] [.int (Int32.ofNat v.length), .int s1] h) ∧
  (∀ (l0 l1 l2 l3 l4 l5 l6 l7 l8 l9 l10 l11 : Option Value) (s0 : Int32) (s1 : Int32) (h : sx_H), sx_Ev S 120 10 [l0, l1, l2, l3, l4, l5, l6, l7, l8, l9, l10, l11] [.int s0, .int s1] h = if s1 < s0 then sx_Ev S 120 13 [l0, l1, l2, l3, l4, l5, l6, l7, l8, l9, l10, l11] [] h else sx_Ev S 120 390 [l0, l1, l2, l3, l4, l5, l6, l7, l8, l9, l10, l11] [] h) ∧
  (∀ (l0 l1 l2 l3 l4 l5 l6 l7 l8 l9 l10 l11 : Option Value) (h : sx_H), sx_Ev S 120 13 [l0, l1, l2, l3, l4, l5, l6, l7, l8, l9, l10, l11] [] h = sx_Ev S 120 14 [l0, l1, l2, l3, l4, l5, l6, l7, l8, l9, l10, l11] [.int (sz (0))] h) ∧
  (∀ (l0 l1 l2 l3 l4 l5 l6 l7 l8 l9 l10 l11 : Option Value) (s0 : Int32) (h : sx_H), sx_Ev S 120 14 [l0, l1, l2, l3, l4, l5, l6, l7, l8, l9, l10, l11] [.int s0] h = sx_Ev S 120 16 [l0, l1, l2, l3, l4, l5, some (.int s0), l7, l8, l9, l10, l11] [] h) ∧
  (∀ (l0 l1 l2 l3 l4 l6 l7 l8 l9 l10 l11 : Option Value) (s0 : Int32) (x : Int32) (h : sx_H), sx_Ev S 120 18 [l0, l1, l2, l3, l4, some (.int x), l6, l7, l8, l9, l10, l11] [.int s0] h = sx_Ev S 120 20 [l0, l1, l2, l3, l4, some (.int x), l6, l7, l8, l9, l10, l11] [.int x, .int s0] h) ∧
  (∀ (l0 l1 l2 l3 l4 l5 l6 l7 l8 l9 l10 l11 : Option Value) (s0 : Int32) (s1 : Int32) (h : sx_H), sx_Ev S 120 20 [l0, l1, l2, l3, l4, l5, l6, l7, l8, l9, l10, l11] [.int s0, .int s1] h = if s1 < s0 then sx_Ev S 120 23 [l0, l1, l2, l3, l4, l5, l6, l7, l8, l9, l10, l11] [] h else sx_Ev S 120 215 [l0, l1, l2, l3, l4, l5, l6, l7, l8, l9, l10, l11] [] h) ∧
  (∀ (l0 l1 l2 l3 l4 l5 l7 l8 l9 l10 l11 : Option Value) (x : Int32) (h : sx_H), sx_Ev S 120 23 [l0, l1, l2, l3, l4, l5, some (.int x), l7, l8, l9, l10, l11] [] h = sx_Ev S 120 25 [l0, l1, l2, l3, l4, l5, some (.int x), l7, l8, l9, l10, l11] [.int x] h) ∧
  (∀ (l0 l1 l3 l4 l5 l6 l7 l8 l9 l10 l11 : Option Value) (s0 : Int32) (x : Int32) (h : sx_H), sx_Ev S 120 25 [l0, l1, some (.int x), l3, l4, l5, l6, l7, l8, l9, l10, l11] [.int s0] h = sx_Ev S 120 26 [l0, l1, some (.int x), l3, l4, l5, l6, l7, l8, l9, l10, l11] [.int x, .int s0] h) ∧
  (∀ (l0 l1 l2 l3 l4 l5 l6 l7 l8 l9 l10 l11 : Option Value) (s0 : Int32) (s1 : Int32) (h : sx_H), sx_Ev S 120 26 [l0, l1, l2, l3, l4, l5, l6, l7, l8, l9, l10, l11] [.int s0, .int s1] h = if s0 = 0 then none else sx_Ev S 120 27 [l0, l1, l2, l3, l4, l5, l6, l7, l8, l9, l10, l11] [.int (s1 / s0)] h) ∧
  (∀ (l0 l1 l2 l3 l4 l6 l7 l8 l9 l10 l11 : Option Value) (s0 : Int32) (x : Int32) (h : sx_H), sx_Ev S 120 27 [l0, l1, l2, l3, l4, some (.int x), l6, l7, l8, l9, l10, l11] [.int s0] h = sx_Ev S 120 29 [l0, l1, l2, l3, l4, some (.int x), l6, l7, l8, l9, l10, l11] [.int x, .int s0] h) ∧
  (∀ (l0 l1 l3 l4 l5 l6 l7 l8 l9 l10 l11 : Option Value) (s0 : Int32) (s1 : Int32) (x : Int32) (h : sx_H), sx_Ev S 120 29 [l0, l1, some (.int x), l3, l4, l5, l6, l7, l8, l9, l10, l11] [.int s0, .int s1] h = sx_Ev S 120 30 [l0, l1, some (.int x), l3, l4, l5, l6, l7, l8, l9, l10, l11] [.int x, .int s0, .int s1] h) ∧
  (∀ (l0 l1 l2 l3 l4 l5 l6 l7 l8 l9 l10 l11 : Option Value) (s0 : Int32) (s1 : Int32) (s2 : Int32) (h : sx_H), sx_Ev S 120 30 [l0, l1, l2, l3, l4, l5, l6, l7, l8, l9, l10, l11] [.int s0, .int s1, .int s2] h = if s0 = 0 then none else sx_Ev S 120 31 [l0, l1, l2, l3, l4, l5, l6, l7, l8, l9, l10, l11] [.int (s1 / s0), .int s2] h) ∧
  (∀ (l0 l1 l2 l3 l4 l5 l6 l7 l8 l9 l10 l11 : Option Value) (s0 : Int32) (s1 : Int32) (h : sx_H), sx_Ev S 120 31 [l0, l1, l2, l3, l4, l5, l6, l7, l8, l9, l10, l11] [.int s0, .int s1] h = sx_Ev S 120 32 [l0, l1, l2, l3, l4, l5, l6, l7, l8, l9, l10, l11] [.int (s1 - s0)] h) ∧
  (∀ (l0 l1 l2 l3 l4 l5 l6 l7 l8 l9 l10 l11 : Option Value) (s0 : Int32) (h : sx_H), sx_Ev S 120 32 [l0, l1, l2, l3, l4, l5, l6, l7, l8, l9, l10, l11] [.int s0] h = sx_Ev S 120 34 [l0, l1, l2, l3, l4, l5, l6, some (.int s0), l8, l9, l10, l11] [] h) ∧
  (∀ (l0 l1 l2 l3 l4 l5 l7 l8 l9 l10 l11 : Option Value) (x : Int32) (h : sx_H), sx_Ev S 120 34 [l0, l1, l2, l3, l4, l5, some (.int x), l7, l8, l9, l10, l11] [] h = sx_Ev S 120 36 [l0, l1, l2, l3, l4, l5, some (.int x), l7, l8, l9, l10, l11] [.int x] h) ∧
  (∀ (l0 l1 l3 l4 l5 l6 l7 l8 l9 l10 l11 : Option Value) (s0 : Int32) (x : Int32) (h : sx_H), sx_Ev S 120 36 [l0, l1, some (.int x), l3, l4, l5, l6, l7, l8, l9, l10, l11] [.int s0] h = sx_Ev S 120 37 [l0, l1, some (.int x), l3, l4, l5, l6, l7, l8, l9, l10, l11] [.int x, .int s0] h) ∧
  (∀ (l0 l1 l2 l3 l4 l5 l6 l7 l8 l9 l10 l11 : Option Value) (s0 : Int32) (s1 : Int32) (h : sx_H), sx_Ev S 120 37 [l0, l1, l2, l3, l4, l5, l6, l7, l8, l9, l10, l11] [.int s0, .int s1] h = if s0 = 0 then none else sx_Ev S 120 38 [l0, l1, l2, l3, l4, l5, l6, l7, l8, l9, l10, l11] [.int (s1 - s1 / s0 * s0)] h) ∧
  (∀ (l0 l1 l2 l3 l4 l6 l7 l8 l9 l10 l11 : Option Value) (s0 : Int32) (x : Int32) (h : sx_H), sx_Ev S 120 38 [l0, l1, l2, l3, l4, some (.int x), l6, l7, l8, l9, l10, l11] [.int s0] h = sx_Ev S 120 40 [l0, l1, l2, l3, l4, some (.int x), l6, l7, l8, l9, l10, l11] [.int x, .int s0] h) ∧
  (∀ (l0 l1 l3 l4 l5 l6 l7 l8 l9 l10 l11 : Option Value) (s0 : Int32) (s1 : Int32) (x : Int32) (h : sx_H), sx_Ev S 120 40 [l0, l1, some (.int x), l3, l4, l5, l6, l7, l8, l9, l10, l11] [.int s0, .int s1] h = sx_Ev S 120 41 [l0, l1, some (.int x), l3, l4, l5, l6, l7, l8, l9, l10, l11] [.int x, .int s0, .int s1] h) ∧
  (∀ (l0 l1 l2 l3 l4 l5 l6 l7 l8 l9 l10 l11 : Option Value) (s0 : Int32) (s1 : Int32) (s2 : Int32) (h : sx_H), sx_Ev S 120 41 [l0, l1, l2, l3, l4, l5, l6, l7, l8, l9, l10, l11] [.int s0, .int s1, .int s2] h = if s0 = 0 then none else sx_Ev S 120 42 [l0, l1, l2, l3, l4, l5, l6, l7, l8, l9, l10, l11] [.int (s1 - s1 / s0 * s0), .int s2] h) ∧
  (∀ (l0 l1 l2 l3 l4 l5 l6 l7 l8 l9 l10 l11 : Option Value) (s0 : Int32) (s1 : Int32) (h : sx_H), sx_Ev S 120 42 [l0, l1, l2, l3, l4, l5, l6, l7, l8, l9, l10, l11] [.int s0, .int s1] h = sx_Ev S 120 43 [l0, l1, l2, l3, l4, l5, l6, l7, l8, l9, l10, l11] [.int (s1 - s0)] h) ∧
  (∀ (l0 l1 l2 l3 l4 l5 l6 l7 l8 l9 l10 l11 : Option Value) (s0 : Int32) (h : sx_H), sx_Ev S 120 43 [l0, l1, l2, l3, l4, l5, l6, l7, l8, l9, l10, l11] [.int s0] h = sx_Ev S 120 45 [l0, l1, l2, l3, l4, l5, l6, l7, some (.int s0), l9, l10, l11] [] h) ∧
  (∀ (l1 l2 l3 l4 l5 l6 l7 l8 l9 l10 l11 : Option Value) (x : Int32) (h : sx_H), sx_Ev S 120 45 [some (.int x), l1, l2, l3, l4, l5, l6, l7, l8, l9, l10, l11] [] h = sx_Ev S 120 46 [some (.int x), l1, l2, l3, l4, l5, l6, l7, l8, l9, l10, l11] [.int x] h) ∧
  (∀ (l0 l1 l2 l3 l4 l6 l7 l8 l9 l10 l11 : Option Value) (s0 : Int32) (x : Int32) (h : sx_H), sx_Ev S 120 46 [l0, l1, l2, l3, l4, some (.int x), l6, l7, l8, l9, l10, l11] [.int s0] h = sx_Ev S 120 48 [l0, l1, l2, l3, l4, some (.int x), l6, l7, l8, l9, l10, l11] [.int x, .int s0] h) ∧
  (∀ (l0 l1 l3 l4 l5 l6 l7 l8 l9 l10 l11 : Option Value) (s0 : Int32) (s1 : Int32) (x : Int32) (h : sx_H), sx_Ev S 120 48 [l0, l1, some (.int x), l3, l4, l5, l6, l7, l8, l9, l10, l11] [.int s0, .int s1] h = sx_Ev S 120 49 [l0, l1, some (.int x), l3, l4, l5, l6, l7, l8, l9, l10, l11] [.int x, .int s0, .int s1] h) ∧
  (∀ (l0 l1 l2 l3 l4 l5 l6 l7 l8 l9 l10 l11 : Option Value) (s0 : Int32) (s1 : Int32) (s2 : Int32) (h : sx_H), sx_Ev S 120 49 [l0, l1, l2, l3, l4, l5, l6, l7, l8, l9, l10, l11] [.int s0, .int s1, .int s2] h = if s0 = 0 then none else sx_Ev S 120 50 [l0, l1, l2, l3, l4, l5, l6, l7, l8, l9, l10, l11] [.int (s1 / s0), .int s2] h) ∧
  (∀ (l0 l1 l2 l3 l4 l6 l7 l8 l9 l10 l11 : Option Value) (s0 : Int32) (s1 : Int32) (x : Int32) (h : sx_H), sx_Ev S 120 50 [l0, l1, l2, l3, l4, some (.int x), l6, l7, l8, l9, l10, l11] [.int s0, .int s1] h = sx_Ev S 120 52 [l0, l1, l2, l3, l4, some (.int x), l6, l7, l8, l9, l10, l11] [.int x, .int s0, .int s1] h) ∧
  (∀ (l0 l1 l3 l4 l5 l6 l7 l8 l9 l10 l11 : Option Value) (s0 : Int32) (s1 : Int32) (s2 : Int32) (x : Int32) (h : sx_H), sx_Ev S 120 52 [l0, l1, some (.int x), l3, l4, l5, l6, l7, l8, l9, l10, l11] [.int s0, .int s1, .int s2] h = sx_Ev S 120 53 [l0, l1, some (.int x), l3, l4, l5, l6, l7, l8, l9, l10, l11] [.int x, .int s0, .int s1, .int s2] h) ∧
  (∀ (l0 l1 l2 l3 l4 l5 l6 l7 l8 l9 l10 l11 : Option Value) (s0 : Int32) (s1 : Int32) (s2 : Int32) (s3 : Int32) (h : sx_H), sx_Ev S 120 53 [l0, l1, l2, l3, l4, l5, l6, l7, l8, l9, l10, l11] [.int s0, .int s1, .int s2, .int s3] h = if s0 = 0 then none else sx_Ev S 120 54 [l0, l1, l2, l3, l4, l5, l6, l7, l8, l9, l10, l11] [.int (s1 - s1 / s0 * s0), .int s2, .int s3] h) ∧
  (∀ (l0 l1 l2 l3 l4 l5 l7 l8 l9 l10 l11 : Option Value) (s0 : Int32) (s1 : Int32) (s2 : Int32) (x : Int32) (h : sx_H), sx_Ev S 120 54 [l0, l1, l2, l3, l4, l5, some (.int x), l7, l8, l9, l10, l11] [.int s0, .int s1, .int s2] h = sx_Ev S 120 56 [l0, l1, l2, l3, l4, l5, some (.int x), l7, l8, l9, l10, l11] [.int x, .int s0, .int s1, .int s2] h) ∧
  (∀ (l0 l1 l3 l4 l5 l6 l7 l8 l9 l10 l11 : Option Value) (s0 : Int32) (s1 : Int32) (s2 : Int32) (s3 : Int32) (x : Int32) (h : sx_H), sx_Ev S 120 56 [l0, l1, some (.int x), l3, l4, l5, l6, l7, l8, l9, l10, l11] [.int s0, .int s1, .int s2, .int s3] h = sx_Ev S 120 57 [l0, l1, some (.int x), l3, l4, l5, l6, l7, l8, l9, l10, l11] [.int x, .int s0, .int s1, .int s2, .int s3] h) ∧
  (∀ (l0 l1 l2 l3 l4 l5 l6 l7 l8 l9 l10 l11 : Option Value) (s0 : Int32) (s1 : Int32) (s2 : Int32) (s3 : Int32) (s4 : Int32) (h : sx_H), sx_Ev S 120 57 [l0, l1, l2, l3, l4, l5, l6, l7, l8, l9, l10, l11] [.int s0, .int s1, .int s2, .int s3, .int s4] h = if s0 = 0 then none else sx_Ev S 120 58 [l0, l1, l2, l3, l4, l5, l6, l7, l8, l9, l10, l11] [.int (s1 / s0), .int s2, .int s3, .int s4] h) ∧
  (∀ (l0 l1 l2 l3 l4 l5 l7 l8 l9 l10 l11 : Option Value) (s0 : Int32) (s1 : Int32) (s2 : Int32) (s3 : Int32) (x : Int32) (h : sx_H), sx_Ev S 120 58 [l0, l1, l2, l3, l4, l5, some (.int x), l7, l8, l9, l10, l11] [.int s0, .int s1, .int s2, .int s3] h = sx_Ev S 120 60 [l0, l1, l2, l3, l4, l5, some (.int x), l7, l8, l9, l10, l11] [.int x, .int s0, .int s1, .int s2, .int s3] h) ∧
  (∀ (l0 l1 l3 l4 l5 l6 l7 l8 l9 l10 l11 : Option Value) (s0 : Int32) (s1 : Int32) (s2 : Int32) (s3 : Int32) (s4 : Int32) (x : Int32) (h : sx_H), sx_Ev S 120 60 [l0, l1, some (.int x), l3, l4, l5, l6, l7, l8, l9, l10, l11] [.int s0, .int s1, .int s2, .int s3, .int s4] h = sx_Ev S 120 61 [l0, l1, some (.int x), l3, l4, l5, l6, l7, l8, l9, l10, l11] [.int x, .int s0, .int s1, .int s2, .int s3, .int s4] h) ∧
  (∀ (l0 l1 l2 l3 l4 l5 l6 l7 l8 l9 l10 l11 : Option Value) (s0 : Int32) (s1 : Int32) (s2 : Int32) (s3 : Int32) (s4 : Int32) (s5 : Int32) (h : sx_H), sx_Ev S 120 61 [l0, l1, l2, l3, l4, l5, l6, l7, l8, l9, l10, l11] [.int s0, .int s1, .int s2, .int s3, .int s4, .int s5] h = if s0 = 0 then none else sx_Ev S 120 62 [l0, l1, l2, l3, l4, l5, l6, l7, l8, l9, l10, l11] [.int (s1 - s1 / s0 * s0), .int s2, .int s3, .int s4, .int s5] h) ∧
  (∀ (l0 l1 l2 l3 l4 l5 l6 l7 l8 l9 l10 l11 : Option Value) (s0 : Int32) (s1 : Int32) (s2 : Int32) (s3 : Int32) (s4 : Int32) (h : sx_H), sx_Ev S 120 62 [l0, l1, l2, l3, l4, l5, l6, l7, l8, l9, l10, l11] [.int s0, .int s1, .int s2, .int s3, .int s4] h = sx_back S 120 62 [l0, l1, l2, l3, l4, l5, l6, l7, l8, l9, l10, l11] [] (sx_Cl S 119 [.int s4, .int s3, .int s2, .int s1, .int s0] h)) ∧
  (∀ (ls : sx_L) (st : List Value) (v : Value) (h : sx_H), sx_back S 120 62 ls st (some (.inl (some v), h)) = sx_Ev S 120 65 ls (v :: st) h) ∧
  (∀ (ls : sx_L) (st : List Value) (e : Nat) (h : sx_H), sx_back S 120 62 ls st (some (.inr e, h)) = some (.inr e, h)) ∧
  (∀ (l0 l1 l2 l3 l4 l5 l6 l7 l8 l9 l10 l11 : Option Value) (s0 : Int32) (h : sx_H), sx_Ev S 120 65 [l0, l1, l2, l3, l4, l5, l6, l7, l8, l9, l10, l11] [.int s0] h = sx_Ev S 120 67 [l0, l1, l2, l3, l4, l5, l6, l7, l8, some (.int s0), l10, l11] [] h) ∧
  (∀ (l1 l2 l3 l4 l5 l6 l7 l8 l9 l10 l11 : Option Value) (x : Int32) (h : sx_H), sx_Ev S 120 67 [some (.int x), l1, l2, l3, l4, l5, l6, l7, l8, l9, l10, l11] [] h = sx_Ev S 120 68 [some (.int x), l1, l2, l3, l4, l5, l6, l7, l8, l9, l10, l11] [.int x] h) ∧
  (∀ (l0 l1 l2 l3 l4 l5 l6 l7 l8 l9 l10 l11 : Option Value) (s0 : Int32) (h : sx_H), sx_Ev S 120 68 [l0, l1, l2, l3, l4, l5, l6, l7, l8, l9, l10, l11] [.int s0] h = sx_Ev S 120 70 [l0, l1, l2, l3, l4, l5, l6, l7, l8, l9, l10, l11] [.int (sz (108)), .int s0] h) ∧
  (∀ (l0 l1 l2 l3 l4 l5 l6 l7 l8 l9 l10 l11 : Option Value) (s0 : Int32) (s1 : Int32) (h : sx_H), sx_Ev S 120 70 [l0, l1, l2, l3, l4, l5, l6, l7, l8, l9, l10, l11] [.int s0, .int s1] h = if s1 = s0 then sx_Ev S 120 73 [l0, l1, l2, l3, l4, l5, l6, l7, l8, l9, l10, l11] [] h else sx_Ev S 120 99 [l0, l1, l2, l3, l4, l5, l6, l7, l8, l9, l10, l11] [] h) ∧
  (∀ (l0 l1 l2 l3 l4 l5 l6 l8 l9 l10 l11 : Option Value) (x : Int32) (h : sx_H), sx_Ev S 120 73 [l0, l1, l2, l3, l4, l5, l6, some (.int x), l8, l9, l10, l11] [] h = sx_Ev S 120 75 [l0, l1, l2, l3, l4, l5, l6, some (.int x), l8, l9, l10, l11] [.int x] h) ∧
  (∀ (l0 l1 l2 l3 l4 l5 l6 l8 l9 l10 l11 : Option Value) (s0 : Int32) (x : Int32) (h : sx_H), sx_Ev S 120 75 [l0, l1, l2, l3, l4, l5, l6, some (.int x), l8, l9, l10, l11] [.int s0] h = sx_Ev S 120 77 [l0, l1, l2, l3, l4, l5, l6, some (.int x), l8, l9, l10, l11] [.int x, .int s0] h) ∧
  (∀ (l0 l1 l2 l3 l4 l5 l6 l7 l8 l9 l10 l11 : Option Value) (s0 : Int32) (s1 : Int32) (h : sx_H), sx_Ev S 120 77 [l0, l1, l2, l3, l4, l5, l6, l7, l8, l9, l10, l11] [.int s0, .int s1] h = sx_Ev S 120 78 [l0, l1, l2, l3, l4, l5, l6, l7, l8, l9, l10, l11] [.int (s1 * s0)] h) ∧
  (∀ (l0 l1 l2 l3 l4 l5 l6 l7 l8 l9 l10 l11 : Option Value) (s0 : Int32) (h : sx_H), sx_Ev S 120 78 [l0, l1, l2, l3, l4, l5, l6, l7, l8, l9, l10, l11] [.int s0] h = sx_Ev S 120 79 [l0, l1, l2, l3, l4, l5, l6, l7, l8, l9, l10, l11] [.int (sz (1)), .int s0] h) ∧
  (∀ (l0 l1 l2 l3 l4 l5 l6 l7 l8 l9 l10 l11 : Option Value) (s0 : Int32) (s1 : Int32) (h : sx_H), sx_Ev S 120 79 [l0, l1, l2, l3, l4, l5, l6, l7, l8, l9, l10, l11] [.int s0, .int s1] h = if s1 = s0 then sx_Ev S 120 82 [l0, l1, l2, l3, l4, l5, l6, l7, l8, l9, l10, l11] [] h else sx_Ev S 120 95 [l0, l1, l2, l3, l4, l5, l6, l7, l8, l9, l10, l11] [] h) ∧
  (∀ (l0 l1 l2 l3 l4 l5 l6 l7 l9 l10 l11 : Option Value) (x : Int32) (h : sx_H), sx_Ev S 120 82 [l0, l1, l2, l3, l4, l5, l6, l7, some (.int x), l9, l10, l11] [] h = sx_Ev S 120 84 [l0, l1, l2, l3, l4, l5, l6, l7, some (.int x), l9, l10, l11] [.int x] h) ∧
  (∀ (l0 l1 l2 l3 l4 l5 l6 l7 l9 l10 l11 : Option Value) (s0 : Int32) (x : Int32) (h : sx_H), sx_Ev S 120 84 [l0, l1, l2, l3, l4, l5, l6, l7, some (.int x), l9, l10, l11] [.int s0] h = sx_Ev S 120 86 [l0, l1, l2, l3, l4, l5, l6, l7, some (.int x), l9, l10, l11] [.int x, .int s0] h) ∧
  (∀ (l0 l1 l2 l3 l4 l5 l6 l7 l8 l9 l10 l11 : Option Value) (s0 : Int32) (s1 : Int32) (h : sx_H), sx_Ev S 120 86 [l0, l1, l2, l3, l4, l5, l6, l7, l8, l9, l10, l11] [.int s0, .int s1] h = sx_Ev S 120 87 [l0, l1, l2, l3, l4, l5, l6, l7, l8, l9, l10, l11] [.int (s1 * s0)] h) ∧
  (∀ (l0 l1 l2 l3 l4 l5 l6 l7 l8 l9 l10 l11 : Option Value) (s0 : Int32) (h : sx_H), sx_Ev S 120 87 [l0, l1, l2, l3, l4, l5, l6, l7, l8, l9, l10, l11] [.int s0] h = sx_Ev S 120 88 [l0, l1, l2, l3, l4, l5, l6, l7, l8, l9, l10, l11] [.int (sz (1)), .int s0] h) ∧
  (∀ (l0 l1 l2 l3 l4 l5 l6 l7 l8 l9 l10 l11 : Option Value) (s0 : Int32) (s1 : Int32) (h : sx_H), sx_Ev S 120 88 [l0, l1, l2, l3, l4, l5, l6, l7, l8, l9, l10, l11] [.int s0, .int s1] h = if s1 = s0 then sx_Ev S 120 91 [l0, l1, l2, l3, l4, l5, l6, l7, l8, l9, l10, l11] [] h else sx_Ev S 120 95 [l0, l1, l2, l3, l4, l5, l6, l7, l8, l9, l10, l11] [] h) ∧
  (∀ (l0 l1 l2 l3 l4 l5 l6 l7 l8 l9 l10 l11 : Option Value) (h : sx_H), sx_Ev S 120 91 [l0, l1, l2, l3, l4, l5, l6, l7, l8, l9, l10, l11] [] h = sx_Ev S 120 92 [l0, l1, l2, l3, l4, l5, l6, l7, l8, l9, l10, l11] [.int (sz (1))] h) ∧
  (∀ (l0 l1 l2 l3 l4 l5 l6 l7 l8 l9 l10 l11 : Option Value) (s0 : Int32) (h : sx_H), sx_Ev S 120 92 [l0, l1, l2, l3, l4, l5, l6, l7, l8, l9, l10, l11] [.int s0] h = sx_Ev S 120 136 [l0, l1, l2, l3, l4, l5, l6, l7, l8, l9, l10, l11] [.int s0] h) ∧
  (∀ (l0 l1 l2 l3 l4 l5 l6 l7 l8 l9 l10 l11 : Option Value) (h : sx_H), sx_Ev S 120 95 [l0, l1, l2, l3, l4, l5, l6, l7, l8, l9, l10, l11] [] h = sx_Ev S 120 96 [l0, l1, l2, l3, l4, l5, l6, l7, l8, l9, l10, l11] [.int (sz (0))] h) := ⟨fun _ _ _ _ _ _ _ _ _ _ _ _ _ => sx_e_nx rfl rfl,
  fun _ _ _ _ _ _ _ _ _ _ _ _ _ _ => sx_e_nx rfl rfl,
  fun _ _ _ _ _ _ _ _ _ _ _ _ _ => sx_e_nx rfl rfl,
  fun _ _ _ _ _ _ _ _ _ _ _ _ _ _ => sx_e_nx rfl rfl,
  fun _ _ _ _ _ _ _ _ _ _ _ _ _ _ => sx_e_nx rfl rfl,
  fun _ _ _ _ _ _ _ _ _ _ _ _ _ _ _ => sx_e_alen rfl rfl,
  fun _ _ _ _ _ _ _ _ _ _ _ _ _ _ _ => sx_e_ige rfl (by decide) rfl,
  fun _ _ _ _ _ _ _ _ _ _ _ _ _ => sx_e_nx rfl rfl,
  fun _ _ _ _ _ _ _ _ _ _ _ _ _ _ => sx_e_nx rfl rfl,
  fun _ _ _ _ _ _ _ _ _ _ _ _ _ _ => sx_e_nx rfl rfl,
  fun _ _ _ _ _ _ _ _ _ _ _ _ _ _ _ => sx_e_ige rfl (by decide) rfl,
  fun _ _ _ _ _ _ _ _ _ _ _ _ _ => sx_e_nx rfl rfl,
  fun _ _ _ _ _ _ _ _ _ _ _ _ _ _ => sx_e_nx rfl rfl,
  fun _ _ _ _ _ _ _ _ _ _ _ _ _ _ _ => sx_e_div rfl rfl,
  fun _ _ _ _ _ _ _ _ _ _ _ _ _ _ => sx_e_nx rfl rfl,
  fun _ _ _ _ _ _ _ _ _ _ _ _ _ _ _ => sx_e_nx rfl rfl,
  fun _ _ _ _ _ _ _ _ _ _ _ _ _ _ _ _ => sx_e_div rfl rfl,
  fun _ _ _ _ _ _ _ _ _ _ _ _ _ _ _ => sx_e_nx rfl rfl,
  fun _ _ _ _ _ _ _ _ _ _ _ _ _ _ => sx_e_nx rfl rfl,
  fun _ _ _ _ _ _ _ _ _ _ _ _ _ => sx_e_nx rfl rfl,
  fun _ _ _ _ _ _ _ _ _ _ _ _ _ _ => sx_e_nx rfl rfl,
  fun _ _ _ _ _ _ _ _ _ _ _ _ _ _ _ => sx_e_rem rfl rfl,
  fun _ _ _ _ _ _ _ _ _ _ _ _ _ _ => sx_e_nx rfl rfl,
  fun _ _ _ _ _ _ _ _ _ _ _ _ _ _ _ => sx_e_nx rfl rfl,
  fun _ _ _ _ _ _ _ _ _ _ _ _ _ _ _ _ => sx_e_rem rfl rfl,
  fun _ _ _ _ _ _ _ _ _ _ _ _ _ _ _ => sx_e_nx rfl rfl,
  fun _ _ _ _ _ _ _ _ _ _ _ _ _ _ => sx_e_nx rfl rfl,
  fun _ _ _ _ _ _ _ _ _ _ _ _ _ => sx_e_nx rfl rfl,
  fun _ _ _ _ _ _ _ _ _ _ _ _ _ _ => sx_e_nx rfl rfl,
  fun _ _ _ _ _ _ _ _ _ _ _ _ _ _ _ => sx_e_nx rfl rfl,
  fun _ _ _ _ _ _ _ _ _ _ _ _ _ _ _ _ => sx_e_div rfl rfl,
  fun _ _ _ _ _ _ _ _ _ _ _ _ _ _ _ => sx_e_nx rfl rfl,
  fun _ _ _ _ _ _ _ _ _ _ _ _ _ _ _ _ => sx_e_nx rfl rfl,
  fun _ _ _ _ _ _ _ _ _ _ _ _ _ _ _ _ _ => sx_e_rem rfl rfl,
  fun _ _ _ _ _ _ _ _ _ _ _ _ _ _ _ _ => sx_e_nx rfl rfl,
  fun _ _ _ _ _ _ _ _ _ _ _ _ _ _ _ _ _ => sx_e_nx rfl rfl,
  fun _ _ _ _ _ _ _ _ _ _ _ _ _ _ _ _ _ _ => sx_e_div rfl rfl,
  fun _ _ _ _ _ _ _ _ _ _ _ _ _ _ _ _ _ => sx_e_nx rfl rfl,
  fun _ _ _ _ _ _ _ _ _ _ _ _ _ _ _ _ _ _ => sx_e_nx rfl rfl,
  fun _ _ _ _ _ _ _ _ _ _ _ _ _ _ _ _ _ _ _ => sx_e_rem rfl rfl,
  fun _ _ _ _ _ _ _ _ _ _ _ _ _ _ _ _ _ _ => sx_e_ca rfl rfl,
  fun _ _ _ _ => rfl,
  fun _ _ _ _ => rfl,
  fun _ _ _ _ _ _ _ _ _ _ _ _ _ _ => sx_e_nx rfl rfl,
  fun _ _ _ _ _ _ _ _ _ _ _ _ _ => sx_e_nx rfl rfl,
  fun _ _ _ _ _ _ _ _ _ _ _ _ _ _ => sx_e_bi rfl (by decide +kernel) rfl,
  fun _ _ _ _ _ _ _ _ _ _ _ _ _ _ _ => sx_e_ine rfl (by decide) rfl,
  fun _ _ _ _ _ _ _ _ _ _ _ _ _ => sx_e_nx rfl rfl,
  fun _ _ _ _ _ _ _ _ _ _ _ _ _ _ => sx_e_nx rfl rfl,
  fun _ _ _ _ _ _ _ _ _ _ _ _ _ _ _ => sx_e_nx rfl rfl,
  fun _ _ _ _ _ _ _ _ _ _ _ _ _ _ => sx_e_nx rfl rfl,
  fun _ _ _ _ _ _ _ _ _ _ _ _ _ _ _ => sx_e_ine rfl (by decide) rfl,
  fun _ _ _ _ _ _ _ _ _ _ _ _ _ => sx_e_nx rfl rfl,
  fun _ _ _ _ _ _ _ _ _ _ _ _ _ _ => sx_e_nx rfl rfl,
  fun _ _ _ _ _ _ _ _ _ _ _ _ _ _ _ => sx_e_nx rfl rfl,
  fun _ _ _ _ _ _ _ _ _ _ _ _ _ _ => sx_e_nx rfl rfl,
  fun _ _ _ _ _ _ _ _ _ _ _ _ _ _ _ => sx_e_ine rfl (by decide) rfl,
  fun _ _ _ _ _ _ _ _ _ _ _ _ _ => sx_e_nx rfl rfl,
  fun _ _ _ _ _ _ _ _ _ _ _ _ _ _ => sx_e_goto rfl (by decide),
  fun _ _ _ _ _ _ _ _ _ _ _ _ _ => sx_e_nx rfl rfl⟩
set_option maxRecDepth 100000 in
theorem q120_1 (S : List Int32) : (∀ (l0 l1 l2 l3 l4 l5 l6 l7 l8 l9 l10 l11 : Option Value) (s0 : Int32) (h : sx_H), sx_Ev S 120 96 [l0, l1, l2, l3, l4, l5, l6, l7, l8, l9, l10, l11] [.int s0] h = sx_Ev S 120 136 [l0, l1, l2, l3, l4, l5, l6, l7, l8, l9, l10, l11] [.int s0] h) ∧
  (∀ (l0 l1 l2 l3 l4 l5 l6 l7 l8 l10 l11 : Option Value) (x : Int32) (h : sx_H), sx_Ev S 120 99 [l0, l1, l2, l3, l4, l5, l6, l7, l8, some (.int x), l10, l11] [] h = sx_Ev S 120 101 [l0, l1, l2, l3, l4, l5, l6, l7, l8, some (.int x), l10, l11] [.int x] h) ∧
  (∀ (l0 l1 l2 l3 l4 l5 l6 l7 l8 l9 l10 l11 : Option Value) (s0 : Int32) (h : sx_H), sx_Ev S 120 101 [l0, l1, l2, l3, l4, l5, l6, l7, l8, l9, l10, l11] [.int s0] h = if s0 = 0 then sx_Ev S 120 135 [l0, l1, l2, l3, l4, l5, l6, l7, l8, l9, l10, l11] [] h else sx_Ev S 120 104 [l0, l1, l2, l3, l4, l5, l6, l7, l8, l9, l10, l11] [] h) ∧
  (∀ (l1 l2 l3 l4 l5 l6 l7 l8 l9 l10 l11 : Option Value) (x : Int32) (h : sx_H), sx_Ev S 120 104 [some (.int x), l1, l2, l3, l4, l5, l6, l7, l8, l9, l10, l11] [] h = sx_Ev S 120 105 [some (.int x), l1, l2, l3, l4, l5, l6, l7, l8, l9, l10, l11] [.int x] h) ∧
  (∀ (l0 l1 l2 l3 l4 l5 l6 l7 l8 l9 l10 l11 : Option Value) (s0 : Int32) (h : sx_H), sx_Ev S 120 105 [l0, l1, l2, l3, l4, l5, l6, l7, l8, l9, l10, l11] [.int s0] h = sx_Ev S 120 107 [l0, l1, l2, l3, l4, l5, l6, l7, l8, l9, l10, l11] [.int (sz (112)), .int s0] h) ∧
  (∀ (l0 l1 l2 l3 l4 l5 l6 l7 l8 l9 l10 l11 : Option Value) (s0 : Int32) (s1 : Int32) (h : sx_H), sx_Ev S 120 107 [l0, l1, l2, l3, l4, l5, l6, l7, l8, l9, l10, l11] [.int s0, .int s1] h = if s1 = s0 then sx_Ev S 120 110 [l0, l1, l2, l3, l4, l5, l6, l7, l8, l9, l10, l11] [] h else sx_Ev S 120 122 [l0, l1, l2, l3, l4, l5, l6, l7, l8, l9, l10, l11] [] h) ∧
  (∀ (l0 l1 l2 l3 l4 l5 l6 l7 l9 l10 l11 : Option Value) (x : Int32) (h : sx_H), sx_Ev S 120 110 [l0, l1, l2, l3, l4, l5, l6, l7, some (.int x), l9, l10, l11] [] h = sx_Ev S 120 112 [l0, l1, l2, l3, l4, l5, l6, l7, some (.int x), l9, l10, l11] [.int x] h) ∧
  (∀ (l0 l1 l2 l3 l4 l5 l6 l7 l9 l10 l11 : Option Value) (s0 : Int32) (x : Int32) (h : sx_H), sx_Ev S 120 112 [l0, l1, l2, l3, l4, l5, l6, l7, some (.int x), l9, l10, l11] [.int s0] h = sx_Ev S 120 114 [l0, l1, l2, l3, l4, l5, l6, l7, some (.int x), l9, l10, l11] [.int x, .int s0] h) ∧
  (∀ (l0 l1 l2 l3 l4 l5 l6 l7 l8 l9 l10 l11 : Option Value) (s0 : Int32) (s1 : Int32) (h : sx_H), sx_Ev S 120 114 [l0, l1, l2, l3, l4, l5, l6, l7, l8, l9, l10, l11] [.int s0, .int s1] h = sx_Ev S 120 115 [l0, l1, l2, l3, l4, l5, l6, l7, l8, l9, l10, l11] [.int (s1 * s0)] h) ∧
  (∀ (l0 l1 l2 l3 l4 l5 l6 l7 l8 l9 l10 l11 : Option Value) (s0 : Int32) (h : sx_H), sx_Ev S 120 115 [l0, l1, l2, l3, l4, l5, l6, l7, l8, l9, l10, l11] [.int s0] h = sx_Ev S 120 116 [l0, l1, l2, l3, l4, l5, l6, l7, l8, l9, l10, l11] [.int (sz (1)), .int s0] h) ∧
  (∀ (l0 l1 l2 l3 l4 l5 l6 l7 l8 l9 l10 l11 : Option Value) (s0 : Int32) (s1 : Int32) (h : sx_H), sx_Ev S 120 116 [l0, l1, l2, l3, l4, l5, l6, l7, l8, l9, l10, l11] [.int s0, .int s1] h = if s1 = s0 then sx_Ev S 120 119 [l0, l1, l2, l3, l4, l5, l6, l7, l8, l9, l10, l11] [] h else sx_Ev S 120 135 [l0, l1, l2, l3, l4, l5, l6, l7, l8, l9, l10, l11] [] h) ∧
  (∀ (l0 l1 l2 l3 l4 l5 l6 l7 l8 l9 l10 l11 : Option Value) (h : sx_H), sx_Ev S 120 119 [l0, l1, l2, l3, l4, l5, l6, l7, l8, l9, l10, l11] [] h = sx_Ev S 120 131 [l0, l1, l2, l3, l4, l5, l6, l7, l8, l9, l10, l11] [] h) ∧
  (∀ (l0 l1 l2 l3 l4 l5 l6 l8 l9 l10 l11 : Option Value) (x : Int32) (h : sx_H), sx_Ev S 120 122 [l0, l1, l2, l3, l4, l5, l6, some (.int x), l8, l9, l10, l11] [] h = sx_Ev S 120 124 [l0, l1, l2, l3, l4, l5, l6, some (.int x), l8, l9, l10, l11] [.int x] h) ∧
  (∀ (l0 l1 l2 l3 l4 l5 l6 l8 l9 l10 l11 : Option Value) (s0 : Int32) (x : Int32) (h : sx_H), sx_Ev S 120 124 [l0, l1, l2, l3, l4, l5, l6, some (.int x), l8, l9, l10, l11] [.int s0] h = sx_Ev S 120 126 [l0, l1, l2, l3, l4, l5, l6, some (.int x), l8, l9, l10, l11] [.int x, .int s0] h) ∧
  (∀ (l0 l1 l2 l3 l4 l5 l6 l7 l8 l9 l10 l11 : Option Value) (s0 : Int32) (s1 : Int32) (h : sx_H), sx_Ev S 120 126 [l0, l1, l2, l3, l4, l5, l6, l7, l8, l9, l10, l11] [.int s0, .int s1] h = sx_Ev S 120 127 [l0, l1, l2, l3, l4, l5, l6, l7, l8, l9, l10, l11] [.int (s1 * s0)] h) ∧
  (∀ (l0 l1 l2 l3 l4 l5 l6 l7 l8 l9 l10 l11 : Option Value) (s0 : Int32) (h : sx_H), sx_Ev S 120 127 [l0, l1, l2, l3, l4, l5, l6, l7, l8, l9, l10, l11] [.int s0] h = sx_Ev S 120 128 [l0, l1, l2, l3, l4, l5, l6, l7, l8, l9, l10, l11] [.int (sz (1)), .int s0] h) ∧
  (∀ (l0 l1 l2 l3 l4 l5 l6 l7 l8 l9 l10 l11 : Option Value) (s0 : Int32) (s1 : Int32) (h : sx_H), sx_Ev S 120 128 [l0, l1, l2, l3, l4, l5, l6, l7, l8, l9, l10, l11] [.int s0, .int s1] h = if s1 = s0 then sx_Ev S 120 131 [l0, l1, l2, l3, l4, l5, l6, l7, l8, l9, l10, l11] [] h else sx_Ev S 120 135 [l0, l1, l2, l3, l4, l5, l6, l7, l8, l9, l10, l11] [] h) ∧
  (∀ (l0 l1 l2 l3 l4 l5 l6 l7 l8 l9 l10 l11 : Option Value) (h : sx_H), sx_Ev S 120 131 [l0, l1, l2, l3, l4, l5, l6, l7, l8, l9, l10, l11] [] h = sx_Ev S 120 132 [l0, l1, l2, l3, l4, l5, l6, l7, l8, l9, l10, l11] [.int (sz (1))] h) ∧
  (∀ (l0 l1 l2 l3 l4 l5 l6 l7 l8 l9 l10 l11 : Option Value) (s0 : Int32) (h : sx_H), sx_Ev S 120 132 [l0, l1, l2, l3, l4, l5, l6, l7, l8, l9, l10, l11] [.int s0] h = sx_Ev S 120 136 [l0, l1, l2, l3, l4, l5, l6, l7, l8, l9, l10, l11] [.int s0] h) ∧
  (∀ (l0 l1 l2 l3 l4 l5 l6 l7 l8 l9 l10 l11 : Option Value) (h : sx_H), sx_Ev S 120 135 [l0, l1, l2, l3, l4, l5, l6, l7, l8, l9, l10, l11] [] h = sx_Ev S 120 136 [l0, l1, l2, l3, l4, l5, l6, l7, l8, l9, l10, l11] [.int (sz (0))] h) ∧
  (∀ (l0 l1 l2 l3 l4 l5 l6 l7 l8 l9 l10 l11 : Option Value) (s0 : Int32) (h : sx_H), sx_Ev S 120 136 [l0, l1, l2, l3, l4, l5, l6, l7, l8, l9, l10, l11] [.int s0] h = sx_Ev S 120 138 [l0, l1, l2, l3, l4, l5, l6, l7, l8, l9, some (.int s0), l11] [] h) ∧
  (∀ (l0 l2 l3 l4 l5 l6 l7 l8 l9 l10 l11 : Option Value) (x : Nat) (h : sx_H), sx_Ev S 120 138 [l0, some (.ref x), l2, l3, l4, l5, l6, l7, l8, l9, l10, l11] [] h = sx_Ev S 120 139 [l0, some (.ref x), l2, l3, l4, l5, l6, l7, l8, l9, l10, l11] [.ref x] h) ∧
  (∀ (l0 l1 l2 l3 l4 l6 l7 l8 l9 l10 l11 : Option Value) (s0 : Nat) (x : Int32) (h : sx_H), sx_Ev S 120 139 [l0, l1, l2, l3, l4, some (.int x), l6, l7, l8, l9, l10, l11] [.ref s0] h = sx_Ev S 120 141 [l0, l1, l2, l3, l4, some (.int x), l6, l7, l8, l9, l10, l11] [.int x, .ref s0] h) ∧
  (∀ (l0 l1 l2 l3 l4 l5 l6 l7 l8 l9 l10 l11 : Option Value) (s0 : Int32) (s1 : Nat) (h : sx_H), sx_Ev S 120 141 [l0, l1, l2, l3, l4, l5, l6, l7, l8, l9, l10, l11] [.int s0, .ref s1] h = (sx_rd S h s1 s0).bind fun v => sx_Ev S 120 142 [l0, l1, l2, l3, l4, l5, l6, l7, l8, l9, l10, l11] [.int v] h) ∧
  (∀ (l0 l1 l2 l3 l4 l5 l6 l7 l8 l9 l10 l11 : Option Value) (s0 : Int32) (h : sx_H), sx_Ev S 120 142 [l0, l1, l2, l3, l4, l5, l6, l7, l8, l9, l10, l11] [.int s0] h = if s0 < 0 then sx_Ev S 120 171 [l0, l1, l2, l3, l4, l5, l6, l7, l8, l9, l10, l11] [] h else sx_Ev S 120 145 [l0, l1, l2, l3, l4, l5, l6, l7, l8, l9, l10, l11] [] h) ∧
  (∀ (l0 l2 l3 l4 l5 l6 l7 l8 l9 l10 l11 : Option Value) (x : Nat) (h : sx_H), sx_Ev S 120 145 [l0, some (.ref x), l2, l3, l4, l5, l6, l7, l8, l9, l10, l11] [] h = sx_Ev S 120 146 [l0, some (.ref x), l2, l3, l4, l5, l6, l7, l8, l9, l10, l11] [.ref x] h) ∧
  (∀ (l0 l1 l2 l3 l4 l5 l7 l8 l9 l10 l11 : Option Value) (s0 : Nat) (x : Int32) (h : sx_H), sx_Ev S 120 146 [l0, l1, l2, l3, l4, l5, some (.int x), l7, l8, l9, l10, l11] [.ref s0] h = sx_Ev S 120 148 [l0, l1, l2, l3, l4, l5, some (.int x), l7, l8, l9, l10, l11] [.int x, .ref s0] h) ∧
  (∀ (l0 l1 l2 l3 l4 l5 l6 l7 l8 l9 l10 l11 : Option Value) (s0 : Int32) (s1 : Nat) (h : sx_H), sx_Ev S 120 148 [l0, l1, l2, l3, l4, l5, l6, l7, l8, l9, l10, l11] [.int s0, .ref s1] h = (sx_rd S h s1 s0).bind fun v => sx_Ev S 120 149 [l0, l1, l2, l3, l4, l5, l6, l7, l8, l9, l10, l11] [.int v] h) ∧
  (∀ (l0 l1 l2 l3 l4 l5 l6 l7 l8 l9 l10 l11 : Option Value) (s0 : Int32) (h : sx_H), sx_Ev S 120 149 [l0, l1, l2, l3, l4, l5, l6, l7, l8, l9, l10, l11] [.int s0] h = if s0 < 0 then sx_Ev S 120 171 [l0, l1, l2, l3, l4, l5, l6, l7, l8, l9, l10, l11] [] h else sx_Ev S 120 152 [l0, l1, l2, l3, l4, l5, l6, l7, l8, l9, l10, l11] [] h) ∧
  (∀ (l0 l2 l3 l4 l5 l6 l7 l8 l9 l10 l11 : Option Value) (x : Nat) (h : sx_H), sx_Ev S 120 152 [l0, some (.ref x), l2, l3, l4, l5, l6, l7, l8, l9, l10, l11] [] h = sx_Ev S 120 153 [l0, some (.ref x), l2, l3, l4, l5, l6, l7, l8, l9, l10, l11] [.ref x] h) ∧
  (∀ (l0 l1 l2 l3 l4 l6 l7 l8 l9 l10 l11 : Option Value) (s0 : Nat) (x : Int32) (h : sx_H), sx_Ev S 120 153 [l0, l1, l2, l3, l4, some (.int x), l6, l7, l8, l9, l10, l11] [.ref s0] h = sx_Ev S 120 155 [l0, l1, l2, l3, l4, some (.int x), l6, l7, l8, l9, l10, l11] [.int x, .ref s0] h) ∧
  (∀ (l0 l1 l2 l3 l4 l5 l6 l7 l8 l9 l10 l11 : Option Value) (s0 : Int32) (s1 : Nat) (h : sx_H), sx_Ev S 120 155 [l0, l1, l2, l3, l4, l5, l6, l7, l8, l9, l10, l11] [.int s0, .ref s1] h = (sx_rd S h s1 s0).bind fun v => sx_Ev S 120 156 [l0, l1, l2, l3, l4, l5, l6, l7, l8, l9, l10, l11] [.int v] h) ∧
  (∀ (l0 l1 l2 l3 l4 l5 l6 l7 l8 l9 l10 l11 : Option Value) (s0 : Int32) (h : sx_H), sx_Ev S 120 156 [l0, l1, l2, l3, l4, l5, l6, l7, l8, l9, l10, l11] [.int s0] h = sx_Ev S 120 157 [l0, l1, l2, l3, l4, l5, l6, l7, l8, l9, l10, l11] [.int (sz (3)), .int s0] h) ∧
  (∀ (l0 l1 l2 l3 l4 l5 l6 l7 l8 l9 l10 l11 : Option Value) (s0 : Int32) (s1 : Int32) (h : sx_H), sx_Ev S 120 157 [l0, l1, l2, l3, l4, l5, l6, l7, l8, l9, l10, l11] [.int s0, .int s1] h = if s0 = 0 then none else sx_Ev S 120 158 [l0, l1, l2, l3, l4, l5, l6, l7, l8, l9, l10, l11] [.int (s1 - s1 / s0 * s0)] h) ∧
  (∀ (l0 l2 l3 l4 l5 l6 l7 l8 l9 l10 l11 : Option Value) (s0 : Int32) (x : Nat) (h : sx_H), sx_Ev S 120 158 [l0, some (.ref x), l2, l3, l4, l5, l6, l7, l8, l9, l10, l11] [.int s0] h = sx_Ev S 120 159 [l0, some (.ref x), l2, l3, l4, l5, l6, l7, l8, l9, l10, l11] [.ref x, .int s0] h) ∧
  (∀ (l0 l1 l2 l3 l4 l5 l7 l8 l9 l10 l11 : Option Value) (s0 : Nat) (s1 : Int32) (x : Int32) (h : sx_H), sx_Ev S 120 159 [l0, l1, l2, l3, l4, l5, some (.int x), l7, l8, l9, l10, l11] [.ref s0, .int s1] h = sx_Ev S 120 161 [l0, l1, l2, l3, l4, l5, some (.int x), l7, l8, l9, l10, l11] [.int x, .ref s0, .int s1] h) ∧
  (∀ (l0 l1 l2 l3 l4 l5 l6 l7 l8 l9 l10 l11 : Option Value) (s0 : Int32) (s1 : Nat) (s2 : Int32) (h : sx_H), sx_Ev S 120 161 [l0, l1, l2, l3, l4, l5, l6, l7, l8, l9, l10, l11] [.int s0, .ref s1, .int s2] h = (sx_rd S h s1 s0).bind fun v => sx_Ev S 120 162 [l0, l1, l2, l3, l4, l5, l6, l7, l8, l9, l10, l11] [.int v, .int s2] h) ∧
  (∀ (l0 l1 l2 l3 l4 l5 l6 l7 l8 l9 l10 l11 : Option Value) (s0 : Int32) (s1 : Int32) (h : sx_H), sx_Ev S 120 162 [l0, l1, l2, l3, l4, l5, l6, l7, l8, l9, l10, l11] [.int s0, .int s1] h = sx_Ev S 120 163 [l0, l1, l2, l3, l4, l5, l6, l7, l8, l9, l10, l11] [.int (sz (3)), .int s0, .int s1] h) ∧
  (∀ (l0 l1 l2 l3 l4 l5 l6 l7 l8 l9 l10 l11 : Option Value) (s0 : Int32) (s1 : Int32) (s2 : Int32) (h : sx_H), sx_Ev S 120 163 [l0, l1, l2, l3, l4, l5, l6, l7, l8, l9, l10, l11] [.int s0, .int s1, .int s2] h = if s0 = 0 then none else sx_Ev S 120 164 [l0, l1, l2, l3, l4, l5, l6, l7, l8, l9, l10, l11] [.int (s1 - s1 / s0 * s0), .int s2] h) ∧
  (∀ (l0 l1 l2 l3 l4 l5 l6 l7 l8 l9 l10 l11 : Option Value) (s0 : Int32) (s1 : Int32) (h : sx_H), sx_Ev S 120 164 [l0, l1, l2, l3, l4, l5, l6, l7, l8, l9, l10, l11] [.int s0, .int s1] h = if s1 = s0 then sx_Ev S 120 167 [l0, l1, l2, l3, l4, l5, l6, l7, l8, l9, l10, l11] [] h else sx_Ev S 120 171 [l0, l1, l2, l3, l4, l5, l6, l7, l8, l9, l10, l11] [] h) ∧
  (∀ (l0 l1 l2 l3 l4 l5 l6 l7 l8 l9 l10 l11 : Option Value) (h : sx_H), sx_Ev S 120 167 [l0, l1, l2, l3, l4, l5, l6, l7, l8, l9, l10, l11] [] h = sx_Ev S 120 168 [l0, l1, l2, l3, l4, l5, l6, l7, l8, l9, l10, l11] [.int (sz (1))] h) ∧
  (∀ (l0 l1 l2 l3 l4 l5 l6 l7 l8 l9 l10 l11 : Option Value) (s0 : Int32) (h : sx_H), sx_Ev S 120 168 [l0, l1, l2, l3, l4, l5, l6, l7, l8, l9, l10, l11] [.int s0] h = sx_Ev S 120 172 [l0, l1, l2, l3, l4, l5, l6, l7, l8, l9, l10, l11] [.int s0] h) ∧
  (∀ (l0 l1 l2 l3 l4 l5 l6 l7 l8 l9 l10 l11 : Option Value) (h : sx_H), sx_Ev S 120 171 [l0, l1, l2, l3, l4, l5, l6, l7, l8, l9, l10, l11] [] h = sx_Ev S 120 172 [l0, l1, l2, l3, l4, l5, l6, l7, l8, l9, l10, l11] [.int (sz (0))] h) ∧
  (∀ (l0 l1 l2 l3 l4 l5 l6 l7 l8 l9 l10 l11 : Option Value) (s0 : Int32) (h : sx_H), sx_Ev S 120 172 [l0, l1, l2, l3, l4, l5, l6, l7, l8, l9, l10, l11] [.int s0] h = sx_Ev S 120 174 [l0, l1, l2, l3, l4, l5, l6, l7, l8, l9, l10, some (.int s0)] [] h) ∧
  (∀ (l0 l1 l2 l3 l5 l6 l7 l8 l9 l10 l11 : Option Value) (x : Int32) (h : sx_H), sx_Ev S 120 174 [l0, l1, l2, l3, some (.int x), l5, l6, l7, l8, l9, l10, l11] [] h = sx_Ev S 120 176 [l0, l1, l2, l3, some (.int x), l5, l6, l7, l8, l9, l10, l11] [.int x] h) ∧
  (∀ (l0 l1 l2 l3 l4 l5 l6 l7 l8 l9 l10 : Option Value) (s0 : Int32) (x : Int32) (h : sx_H), sx_Ev S 120 176 [l0, l1, l2, l3, l4, l5, l6, l7, l8, l9, l10, some (.int x)] [.int s0] h = sx_Ev S 120 178 [l0, l1, l2, l3, l4, l5, l6, l7, l8, l9, l10, some (.int x)] [.int x, .int s0] h) ∧
  (∀ (l0 l1 l2 l3 l4 l5 l6 l7 l8 l9 l10 l11 : Option Value) (s0 : Int32) (s1 : Int32) (h : sx_H), sx_Ev S 120 178 [l0, l1, l2, l3, l4, l5, l6, l7, l8, l9, l10, l11] [.int s0, .int s1] h = if s0 = 0 then sx_Ev S 120 205 [l0, l1, l2, l3, l4, l5, l6, l7, l8, l9, l10, l11] [.int s1] h else sx_Ev S 120 181 [l0, l1, l2, l3, l4, l5, l6, l7, l8, l9, l10, l11] [.int s1] h) ∧
  (∀ (l0 l1 l2 l4 l5 l6 l7 l8 l9 l10 l11 : Option Value) (s0 : Int32) (x : Int32) (h : sx_H), sx_Ev S 120 181 [l0, l1, l2, some (.int x), l4, l5, l6, l7, l8, l9, l10, l11] [.int s0] h = sx_Ev S 120 182 [l0, l1, l2, some (.int x), l4, l5, l6, l7, l8, l9, l10, l11] [.int x, .int s0] h) ∧
  (∀ (l0 l1 l2 l3 l4 l5 l6 l7 l8 l9 l10 l11 : Option Value) (s0 : Int32) (s1 : Int32) (h : sx_H), sx_Ev S 120 182 [l0, l1, l2, l3, l4, l5, l6, l7, l8, l9, l10, l11] [.int s0, .int s1] h = sx_Ev S 120 183 [l0, l1, l2, l3, l4, l5, l6, l7, l8, l9, l10, l11] [.int (sz (1)), .int s0, .int s1] h) ∧
  (∀ (l0 l1 l2 l3 l4 l5 l6 l7 l8 l9 l10 l11 : Option Value) (s0 : Int32) (s1 : Int32) (s2 : Int32) (h : sx_H), sx_Ev S 120 183 [l0, l1, l2, l3, l4, l5, l6, l7, l8, l9, l10, l11] [.int s0, .int s1, .int s2] h = if s1 = s0 then sx_Ev S 120 186 [l0, l1, l2, l3, l4, l5, l6, l7, l8, l9, l10, l11] [.int s2] h else sx_Ev S 120 191 [l0, l1, l2, l3, l4, l5, l6, l7, l8, l9, l10, l11] [.int s2] h) ∧
  (∀ (l0 l1 l2 l3 l4 l5 l6 l7 l8 l10 l11 : Option Value) (s0 : Int32) (x : Int32) (h : sx_H), sx_Ev S 120 186 [l0, l1, l2, l3, l4, l5, l6, l7, l8, some (.int x), l10, l11] [.int s0] h = sx_Ev S 120 188 [l0, l1, l2, l3, l4, l5, l6, l7, l8, some (.int x), l10, l11] [.int x, .int s0] h) ∧
  (∀ (l0 l1 l2 l3 l4 l5 l6 l7 l8 l9 l10 l11 : Option Value) (s0 : Int32) (s1 : Int32) (h : sx_H), sx_Ev S 120 188 [l0, l1, l2, l3, l4, l5, l6, l7, l8, l9, l10, l11] [.int s0, .int s1] h = if s0 = 0 then sx_Ev S 120 191 [l0, l1, l2, l3, l4, l5, l6, l7, l8, l9, l10, l11] [.int s1] h else sx_Ev S 120 201 [l0, l1, l2, l3, l4, l5, l6, l7, l8, l9, l10, l11] [.int s1] h) ∧
  (∀ (l0 l1 l2 l4 l5 l6 l7 l8 l9 l10 l11 : Option Value) (s0 : Int32) (x : Int32) (h : sx_H), sx_Ev S 120 191 [l0, l1, l2, some (.int x), l4, l5, l6, l7, l8, l9, l10, l11] [.int s0] h = sx_Ev S 120 192 [l0, l1, l2, some (.int x), l4, l5, l6, l7, l8, l9, l10, l11] [.int x, .int s0] h) ∧
  (∀ (l0 l1 l2 l3 l4 l5 l6 l7 l8 l9 l10 l11 : Option Value) (s0 : Int32) (s1 : Int32) (h : sx_H), sx_Ev S 120 192 [l0, l1, l2, l3, l4, l5, l6, l7, l8, l9, l10, l11] [.int s0, .int s1] h = sx_Ev S 120 193 [l0, l1, l2, l3, l4, l5, l6, l7, l8, l9, l10, l11] [.int (sz (2)), .int s0, .int s1] h) ∧
  (∀ (l0 l1 l2 l3 l4 l5 l6 l7 l8 l9 l10 l11 : Option Value) (s0 : Int32) (s1 : Int32) (s2 : Int32) (h : sx_H), sx_Ev S 120 193 [l0, l1, l2, l3, l4, l5, l6, l7, l8, l9, l10, l11] [.int s0, .int s1, .int s2] h = if s1 = s0 then sx_Ev S 120 196 [l0, l1, l2, l3, l4, l5, l6, l7, l8, l9, l10, l11] [.int s2] h else sx_Ev S 120 205 [l0, l1, l2, l3, l4, l5, l6, l7, l8, l9, l10, l11] [.int s2] h) ∧
  (∀ (l0 l1 l2 l3 l4 l5 l6 l7 l8 l9 l11 : Option Value) (s0 : Int32) (x : Int32) (h : sx_H), sx_Ev S 120 196 [l0, l1, l2, l3, l4, l5, l6, l7, l8, l9, some (.int x), l11] [.int s0] h = sx_Ev S 120 198 [l0, l1, l2, l3, l4, l5, l6, l7, l8, l9, some (.int x), l11] [.int x, .int s0] h) ∧
  (∀ (l0 l1 l2 l3 l4 l5 l6 l7 l8 l9 l10 l11 : Option Value) (s0 : Int32) (s1 : Int32) (h : sx_H), sx_Ev S 120 198 [l0, l1, l2, l3, l4, l5, l6, l7, l8, l9, l10, l11] [.int s0, .int s1] h = if s0 = 0 then sx_Ev S 120 205 [l0, l1, l2, l3, l4, l5, l6, l7, l8, l9, l10, l11] [.int s1] h else sx_Ev S 120 201 [l0, l1, l2, l3, l4, l5, l6, l7, l8, l9, l10, l11] [.int s1] h) ∧
  (∀ (l0 l1 l2 l3 l4 l5 l6 l7 l8 l9 l10 l11 : Option Value) (s0 : Int32) (h : sx_H), sx_Ev S 120 201 [l0, l1, l2, l3, l4, l5, l6, l7, l8, l9, l10, l11] [.int s0] h = sx_Ev S 120 202 [l0, l1, l2, l3, l4, l5, l6, l7, l8, l9, l10, l11] [.int (sz (1)), .int s0] h) ∧
  (∀ (l0 l1 l2 l3 l4 l5 l6 l7 l8 l9 l10 l11 : Option Value) (s0 : Int32) (s1 : Int32) (h : sx_H), sx_Ev S 120 202 [l0, l1, l2, l3, l4, l5, l6, l7, l8, l9, l10, l11] [.int s0, .int s1] h = sx_Ev S 120 206 [l0, l1, l2, l3, l4, l5, l6, l7, l8, l9, l10, l11] [.int s0, .int s1] h) ∧
  (∀ (l0 l1 l2 l3 l4 l5 l6 l7 l8 l9 l10 l11 : Option Value) (s0 : Int32) (h : sx_H), sx_Ev S 120 205 [l0, l1, l2, l3, l4, l5, l6, l7, l8, l9, l10, l11] [.int s0] h = sx_Ev S 120 206 [l0, l1, l2, l3, l4, l5, l6, l7, l8, l9, l10, l11] [.int (sz (0)), .int s0] h) := ⟨fun _ _ _ _ _ _ _ _ _ _ _ _ _ _ => sx_e_goto rfl (by decide),
  fun _ _ _ _ _ _ _ _ _ _ _ _ _ => sx_e_nx rfl rfl,
  fun _ _ _ _ _ _ _ _ _ _ _ _ _ _ => sx_e_eq rfl (by decide) rfl,
  fun _ _ _ _ _ _ _ _ _ _ _ _ _ => sx_e_nx rfl rfl,
  fun _ _ _ _ _ _ _ _ _ _ _ _ _ _ => sx_e_bi rfl (by decide +kernel) rfl,
  fun _ _ _ _ _ _ _ _ _ _ _ _ _ _ _ => sx_e_ine rfl (by decide) rfl,
  fun _ _ _ _ _ _ _ _ _ _ _ _ _ => sx_e_nx rfl rfl,
  fun _ _ _ _ _ _ _ _ _ _ _ _ _ _ => sx_e_nx rfl rfl,
  fun _ _ _ _ _ _ _ _ _ _ _ _ _ _ _ => sx_e_nx rfl rfl,
  fun _ _ _ _ _ _ _ _ _ _ _ _ _ _ => sx_e_nx rfl rfl,
  fun _ _ _ _ _ _ _ _ _ _ _ _ _ _ _ => sx_e_ine rfl (by decide) rfl,
  fun _ _ _ _ _ _ _ _ _ _ _ _ _ => sx_e_goto rfl (by decide),
  fun _ _ _ _ _ _ _ _ _ _ _ _ _ => sx_e_nx rfl rfl,
  fun _ _ _ _ _ _ _ _ _ _ _ _ _ _ => sx_e_nx rfl rfl,
  fun _ _ _ _ _ _ _ _ _ _ _ _ _ _ _ => sx_e_nx rfl rfl,
  fun _ _ _ _ _ _ _ _ _ _ _ _ _ _ => sx_e_nx rfl rfl,
  fun _ _ _ _ _ _ _ _ _ _ _ _ _ _ _ => sx_e_ine rfl (by decide) rfl,
  fun _ _ _ _ _ _ _ _ _ _ _ _ _ => sx_e_nx rfl rfl,
  fun _ _ _ _ _ _ _ _ _ _ _ _ _ _ => sx_e_goto rfl (by decide),
  fun _ _ _ _ _ _ _ _ _ _ _ _ _ => sx_e_nx rfl rfl,
  fun _ _ _ _ _ _ _ _ _ _ _ _ _ _ => sx_e_nx rfl rfl,
  fun _ _ _ _ _ _ _ _ _ _ _ _ _ => sx_e_nx rfl rfl,
  fun _ _ _ _ _ _ _ _ _ _ _ _ _ _ => sx_e_nx rfl rfl,
  fun _ _ _ _ _ _ _ _ _ _ _ _ _ _ _ => sx_e_iald rfl rfl,
  fun _ _ _ _ _ _ _ _ _ _ _ _ _ _ => sx_e_lt rfl (by decide) rfl,
  fun _ _ _ _ _ _ _ _ _ _ _ _ _ => sx_e_nx rfl rfl,
  fun _ _ _ _ _ _ _ _ _ _ _ _ _ _ => sx_e_nx rfl rfl,
  fun _ _ _ _ _ _ _ _ _ _ _ _ _ _ _ => sx_e_iald rfl rfl,
  fun _ _ _ _ _ _ _ _ _ _ _ _ _ _ => sx_e_lt rfl (by decide) rfl,
  fun _ _ _ _ _ _ _ _ _ _ _ _ _ => sx_e_nx rfl rfl,
  fun _ _ _ _ _ _ _ _ _ _ _ _ _ _ => sx_e_nx rfl rfl,
  fun _ _ _ _ _ _ _ _ _ _ _ _ _ _ _ => sx_e_iald rfl rfl,
  fun _ _ _ _ _ _ _ _ _ _ _ _ _ _ => sx_e_nx rfl rfl,
  fun _ _ _ _ _ _ _ _ _ _ _ _ _ _ _ => sx_e_rem rfl rfl,
  fun _ _ _ _ _ _ _ _ _ _ _ _ _ _ => sx_e_nx rfl rfl,
  fun _ _ _ _ _ _ _ _ _ _ _ _ _ _ _ => sx_e_nx rfl rfl,
  fun _ _ _ _ _ _ _ _ _ _ _ _ _ _ _ _ => sx_e_iald rfl rfl,
  fun _ _ _ _ _ _ _ _ _ _ _ _ _ _ _ => sx_e_nx rfl rfl,
  fun _ _ _ _ _ _ _ _ _ _ _ _ _ _ _ _ => sx_e_rem rfl rfl,
  fun _ _ _ _ _ _ _ _ _ _ _ _ _ _ _ => sx_e_ine rfl (by decide) rfl,
  fun _ _ _ _ _ _ _ _ _ _ _ _ _ => sx_e_nx rfl rfl,
  fun _ _ _ _ _ _ _ _ _ _ _ _ _ _ => sx_e_goto rfl (by decide),
  fun _ _ _ _ _ _ _ _ _ _ _ _ _ => sx_e_nx rfl rfl,
  fun _ _ _ _ _ _ _ _ _ _ _ _ _ _ => sx_e_nx rfl rfl,
  fun _ _ _ _ _ _ _ _ _ _ _ _ _ => sx_e_nx rfl rfl,
  fun _ _ _ _ _ _ _ _ _ _ _ _ _ _ => sx_e_nx rfl rfl,
  fun _ _ _ _ _ _ _ _ _ _ _ _ _ _ _ => sx_e_eq rfl (by decide) rfl,
  fun _ _ _ _ _ _ _ _ _ _ _ _ _ _ => sx_e_nx rfl rfl,
  fun _ _ _ _ _ _ _ _ _ _ _ _ _ _ _ => sx_e_nx rfl rfl,
  fun _ _ _ _ _ _ _ _ _ _ _ _ _ _ _ _ => sx_e_ine rfl (by decide) rfl,
  fun _ _ _ _ _ _ _ _ _ _ _ _ _ _ => sx_e_nx rfl rfl,
  fun _ _ _ _ _ _ _ _ _ _ _ _ _ _ _ => sx_e_ne rfl (by decide) rfl,
  fun _ _ _ _ _ _ _ _ _ _ _ _ _ _ => sx_e_nx rfl rfl,
  fun _ _ _ _ _ _ _ _ _ _ _ _ _ _ _ => sx_e_nx rfl rfl,
  fun _ _ _ _ _ _ _ _ _ _ _ _ _ _ _ _ => sx_e_ine rfl (by decide) rfl,
  fun _ _ _ _ _ _ _ _ _ _ _ _ _ _ => sx_e_nx rfl rfl,
  fun _ _ _ _ _ _ _ _ _ _ _ _ _ _ _ => sx_e_eq rfl (by decide) rfl,
  fun _ _ _ _ _ _ _ _ _ _ _ _ _ _ => sx_e_nx rfl rfl,
  fun _ _ _ _ _ _ _ _ _ _ _ _ _ _ _ => sx_e_goto rfl (by decide),
  fun _ _ _ _ _ _ _ _ _ _ _ _ _ _ => sx_e_nx rfl rfl⟩
set_option maxRecDepth 100000 in
theorem q120_2 (S : List Int32) : (∀ (l0 l1 l2 l3 l4 l5 l6 l7 l8 l9 l10 l11 : Option Value) (s0 : Int32) (s1 : Int32) (h : sx_H), sx_Ev S 120 206 [l0, l1, l2, l3, l4, l5, l6, l7, l8, l9, l10, l11] [.int s0, .int s1] h = sx_Ev S 120 207 [l0, l1, l2, l3, l4, l5, l6, l7, l8, l9, l10, l11] [.int (s1 + s0)] h) ∧
  (∀ (l0 l1 l2 l3 l4 l5 l6 l7 l8 l9 l10 l11 : Option Value) (s0 : Int32) (h : sx_H), sx_Ev S 120 207 [l0, l1, l2, l3, l4, l5, l6, l7, l8, l9, l10, l11] [.int s0] h = sx_Ev S 120 209 [l0, l1, l2, l3, some (.int s0), l5, l6, l7, l8, l9, l10, l11] [] h) ∧
  (∀ (l0 l1 l2 l3 l4 l5 l7 l8 l9 l10 l11 : Option Value) (x : Int32) (h : sx_H), sx_Ev S 120 209 [l0, l1, l2, l3, l4, l5, some (.int x), l7, l8, l9, l10, l11] [] h = sx_Ev S 120 212 [l0, l1, l2, l3, l4, l5, some (.int (x + sz (1))), l7, l8, l9, l10, l11] [] h) ∧
  (∀ (l0 l1 l2 l3 l4 l5 l6 l7 l8 l9 l10 l11 : Option Value) (h : sx_H), sx_Ev S 120 212 [l0, l1, l2, l3, l4, l5, l6, l7, l8, l9, l10, l11] [] h = sx_Ev S 120 16 [l0, l1, l2, l3, l4, l5, l6, l7, l8, l9, l10, l11] [] h) ∧
  (∀ (l0 l1 l2 l4 l5 l6 l7 l8 l9 l10 l11 : Option Value) (x : Int32) (h : sx_H), sx_Ev S 120 215 [l0, l1, l2, some (.int x), l4, l5, l6, l7, l8, l9, l10, l11] [] h = sx_Ev S 120 216 [l0, l1, l2, some (.int x), l4, l5, l6, l7, l8, l9, l10, l11] [.int x] h) ∧
  (∀ (l0 l1 l2 l3 l4 l5 l6 l7 l8 l9 l10 l11 : Option Value) (s0 : Int32) (h : sx_H), sx_Ev S 120 216 [l0, l1, l2, l3, l4, l5, l6, l7, l8, l9, l10, l11] [.int s0] h = sx_Ev S 120 217 [l0, l1, l2, l3, l4, l5, l6, l7, l8, l9, l10, l11] [.int (sz (4)), .int s0] h) ∧
  (∀ (l0 l1 l2 l3 l4 l5 l6 l7 l8 l9 l10 l11 : Option Value) (s0 : Int32) (s1 : Int32) (h : sx_H), sx_Ev S 120 217 [l0, l1, l2, l3, l4, l5, l6, l7, l8, l9, l10, l11] [.int s0, .int s1] h = if s1 = s0 then sx_Ev S 120 220 [l0, l1, l2, l3, l4, l5, l6, l7, l8, l9, l10, l11] [] h else sx_Ev S 120 297 [l0, l1, l2, l3, l4, l5, l6, l7, l8, l9, l10, l11] [] h) ∧
  (∀ (l0 l1 l2 l3 l4 l6 l7 l8 l9 l10 l11 : Option Value) (x : Int32) (h : sx_H), sx_Ev S 120 220 [l0, l1, l2, l3, l4, some (.int x), l6, l7, l8, l9, l10, l11] [] h = sx_Ev S 120 222 [l0, l1, l2, l3, l4, some (.int x), l6, l7, l8, l9, l10, l11] [.int x] h) ∧
  (∀ (l0 l1 l3 l4 l5 l6 l7 l8 l9 l10 l11 : Option Value) (s0 : Int32) (x : Int32) (h : sx_H), sx_Ev S 120 222 [l0, l1, some (.int x), l3, l4, l5, l6, l7, l8, l9, l10, l11] [.int s0] h = sx_Ev S 120 223 [l0, l1, some (.int x), l3, l4, l5, l6, l7, l8, l9, l10, l11] [.int x, .int s0] h) ∧
  (∀ (l0 l1 l2 l3 l4 l5 l6 l7 l8 l9 l10 l11 : Option Value) (s0 : Int32) (s1 : Int32) (h : sx_H), sx_Ev S 120 223 [l0, l1, l2, l3, l4, l5, l6, l7, l8, l9, l10, l11] [.int s0, .int s1] h = if s0 = 0 then none else sx_Ev S 120 224 [l0, l1, l2, l3, l4, l5, l6, l7, l8, l9, l10, l11] [.int (s1 - s1 / s0 * s0)] h) ∧
  (∀ (l0 l1 l2 l3 l4 l5 l6 l7 l8 l9 l10 l11 : Option Value) (s0 : Int32) (h : sx_H), sx_Ev S 120 224 [l0, l1, l2, l3, l4, l5, l6, l7, l8, l9, l10, l11] [.int s0] h = sx_Ev S 120 225 [l0, l1, l2, l3, l4, l5, l6, l7, l8, l9, l10, l11] [.int (sz (2)), .int s0] h) ∧
  (∀ (l0 l1 l2 l3 l4 l5 l6 l7 l8 l9 l10 l11 : Option Value) (s0 : Int32) (s1 : Int32) (h : sx_H), sx_Ev S 120 225 [l0, l1, l2, l3, l4, l5, l6, l7, l8, l9, l10, l11] [.int s0, .int s1] h = if s1 < s0 then sx_Ev S 120 297 [l0, l1, l2, l3, l4, l5, l6, l7, l8, l9, l10, l11] [] h else sx_Ev S 120 228 [l0, l1, l2, l3, l4, l5, l6, l7, l8, l9, l10, l11] [] h) ∧
  (∀ (l0 l2 l3 l4 l5 l6 l7 l8 l9 l10 l11 : Option Value) (x : Nat) (h : sx_H), sx_Ev S 120 228 [l0, some (.ref x), l2, l3, l4, l5, l6, l7, l8, l9, l10, l11] [] h = sx_Ev S 120 229 [l0, some (.ref x), l2, l3, l4, l5, l6, l7, l8, l9, l10, l11] [.ref x] h) ∧
  (∀ (l0 l1 l2 l3 l4 l6 l7 l8 l9 l10 l11 : Option Value) (s0 : Nat) (x : Int32) (h : sx_H), sx_Ev S 120 229 [l0, l1, l2, l3, l4, some (.int x), l6, l7, l8, l9, l10, l11] [.ref s0] h = sx_Ev S 120 231 [l0, l1, l2, l3, l4, some (.int x), l6, l7, l8, l9, l10, l11] [.int x, .ref s0] h) ∧
  (∀ (l0 l1 l2 l3 l4 l5 l6 l7 l8 l9 l10 l11 : Option Value) (s0 : Int32) (s1 : Nat) (h : sx_H), sx_Ev S 120 231 [l0, l1, l2, l3, l4, l5, l6, l7, l8, l9, l10, l11] [.int s0, .ref s1] h = (sx_rd S h s1 s0).bind fun v => sx_Ev S 120 232 [l0, l1, l2, l3, l4, l5, l6, l7, l8, l9, l10, l11] [.int v] h) ∧
  (∀ (l0 l1 l2 l3 l4 l5 l6 l7 l8 l9 l10 l11 : Option Value) (s0 : Int32) (h : sx_H), sx_Ev S 120 232 [l0, l1, l2, l3, l4, l5, l6, l7, l8, l9, l10, l11] [.int s0] h = if s0 < 0 then sx_Ev S 120 297 [l0, l1, l2, l3, l4, l5, l6, l7, l8, l9, l10, l11] [] h else sx_Ev S 120 235 [l0, l1, l2, l3, l4, l5, l6, l7, l8, l9, l10, l11] [] h) ∧
  (∀ (l0 l2 l3 l4 l5 l6 l7 l8 l9 l10 l11 : Option Value) (x : Nat) (h : sx_H), sx_Ev S 120 235 [l0, some (.ref x), l2, l3, l4, l5, l6, l7, l8, l9, l10, l11] [] h = sx_Ev S 120 236 [l0, some (.ref x), l2, l3, l4, l5, l6, l7, l8, l9, l10, l11] [.ref x] h) ∧
  (∀ (l0 l1 l2 l3 l4 l6 l7 l8 l9 l10 l11 : Option Value) (s0 : Nat) (x : Int32) (h : sx_H), sx_Ev S 120 236 [l0, l1, l2, l3, l4, some (.int x), l6, l7, l8, l9, l10, l11] [.ref s0] h = sx_Ev S 120 238 [l0, l1, l2, l3, l4, some (.int x), l6, l7, l8, l9, l10, l11] [.int x, .ref s0] h) ∧
  (∀ (l0 l1 l2 l3 l4 l5 l6 l7 l8 l9 l10 l11 : Option Value) (s0 : Int32) (s1 : Nat) (h : sx_H), sx_Ev S 120 238 [l0, l1, l2, l3, l4, l5, l6, l7, l8, l9, l10, l11] [.int s0, .ref s1] h = sx_Ev S 120 239 [l0, l1, l2, l3, l4, l5, l6, l7, l8, l9, l10, l11] [.int (sz (1)), .int s0, .ref s1] h) ∧
  (∀ (l0 l1 l2 l3 l4 l5 l6 l7 l8 l9 l10 l11 : Option Value) (s0 : Int32) (s1 : Int32) (s2 : Nat) (h : sx_H), sx_Ev S 120 239 [l0, l1, l2, l3, l4, l5, l6, l7, l8, l9, l10, l11] [.int s0, .int s1, .ref s2] h = sx_Ev S 120 240 [l0, l1, l2, l3, l4, l5, l6, l7, l8, l9, l10, l11] [.int (s1 - s0), .ref s2] h) ∧
  (∀ (l0 l1 l2 l3 l4 l5 l6 l7 l8 l9 l10 l11 : Option Value) (s0 : Int32) (s1 : Nat) (h : sx_H), sx_Ev S 120 240 [l0, l1, l2, l3, l4, l5, l6, l7, l8, l9, l10, l11] [.int s0, .ref s1] h = (sx_rd S h s1 s0).bind fun v => sx_Ev S 120 241 [l0, l1, l2, l3, l4, l5, l6, l7, l8, l9, l10, l11] [.int v] h) ∧
  (∀ (l0 l1 l2 l3 l4 l5 l6 l7 l8 l9 l10 l11 : Option Value) (s0 : Int32) (h : sx_H), sx_Ev S 120 241 [l0, l1, l2, l3, l4, l5, l6, l7, l8, l9, l10, l11] [.int s0] h = if s0 < 0 then sx_Ev S 120 297 [l0, l1, l2, l3, l4, l5, l6, l7, l8, l9, l10, l11] [] h else sx_Ev S 120 244 [l0, l1, l2, l3, l4, l5, l6, l7, l8, l9, l10, l11] [] h) ∧
  (∀ (l0 l2 l3 l4 l5 l6 l7 l8 l9 l10 l11 : Option Value) (x : Nat) (h : sx_H), sx_Ev S 120 244 [l0, some (.ref x), l2, l3, l4, l5, l6, l7, l8, l9, l10, l11] [] h = sx_Ev S 120 245 [l0, some (.ref x), l2, l3, l4, l5, l6, l7, l8, l9, l10, l11] [.ref x] h) ∧
  (∀ (l0 l1 l2 l3 l4 l6 l7 l8 l9 l10 l11 : Option Value) (s0 : Nat) (x : Int32) (h : sx_H), sx_Ev S 120 245 [l0, l1, l2, l3, l4, some (.int x), l6, l7, l8, l9, l10, l11] [.ref s0] h = sx_Ev S 120 247 [l0, l1, l2, l3, l4, some (.int x), l6, l7, l8, l9, l10, l11] [.int x, .ref s0] h) ∧
  (∀ (l0 l1 l2 l3 l4 l5 l6 l7 l8 l9 l10 l11 : Option Value) (s0 : Int32) (s1 : Nat) (h : sx_H), sx_Ev S 120 247 [l0, l1, l2, l3, l4, l5, l6, l7, l8, l9, l10, l11] [.int s0, .ref s1] h = sx_Ev S 120 248 [l0, l1, l2, l3, l4, l5, l6, l7, l8, l9, l10, l11] [.int (sz (2)), .int s0, .ref s1] h) ∧
  (∀ (l0 l1 l2 l3 l4 l5 l6 l7 l8 l9 l10 l11 : Option Value) (s0 : Int32) (s1 : Int32) (s2 : Nat) (h : sx_H), sx_Ev S 120 248 [l0, l1, l2, l3, l4, l5, l6, l7, l8, l9, l10, l11] [.int s0, .int s1, .ref s2] h = sx_Ev S 120 249 [l0, l1, l2, l3, l4, l5, l6, l7, l8, l9, l10, l11] [.int (s1 - s0), .ref s2] h) ∧
  (∀ (l0 l1 l2 l3 l4 l5 l6 l7 l8 l9 l10 l11 : Option Value) (s0 : Int32) (s1 : Nat) (h : sx_H), sx_Ev S 120 249 [l0, l1, l2, l3, l4, l5, l6, l7, l8, l9, l10, l11] [.int s0, .ref s1] h = (sx_rd S h s1 s0).bind fun v => sx_Ev S 120 250 [l0, l1, l2, l3, l4, l5, l6, l7, l8, l9, l10, l11] [.int v] h) ∧
  (∀ (l0 l1 l2 l3 l4 l5 l6 l7 l8 l9 l10 l11 : Option Value) (s0 : Int32) (h : sx_H), sx_Ev S 120 250 [l0, l1, l2, l3, l4, l5, l6, l7, l8, l9, l10, l11] [.int s0] h = if s0 < 0 then sx_Ev S 120 297 [l0, l1, l2, l3, l4, l5, l6, l7, l8, l9, l10, l11] [] h else sx_Ev S 120 253 [l0, l1, l2, l3, l4, l5, l6, l7, l8, l9, l10, l11] [] h) ∧
  (∀ (l0 l1 l2 l3 l5 l6 l7 l8 l9 l10 l11 : Option Value) (x : Int32) (h : sx_H), sx_Ev S 120 253 [l0, l1, l2, l3, some (.int x), l5, l6, l7, l8, l9, l10, l11] [] h = sx_Ev S 120 255 [l0, l1, l2, l3, some (.int x), l5, l6, l7, l8, l9, l10, l11] [.int x] h) ∧
  (∀ (l0 l2 l3 l4 l5 l6 l7 l8 l9 l10 l11 : Option Value) (s0 : Int32) (x : Nat) (h : sx_H), sx_Ev S 120 255 [l0, some (.ref x), l2, l3, l4, l5, l6, l7, l8, l9, l10, l11] [.int s0] h = sx_Ev S 120 256 [l0, some (.ref x), l2, l3, l4, l5, l6, l7, l8, l9, l10, l11] [.ref x, .int s0] h) ∧
  (∀ (l0 l1 l2 l3 l4 l6 l7 l8 l9 l10 l11 : Option Value) (s0 : Nat) (s1 : Int32) (x : Int32) (h : sx_H), sx_Ev S 120 256 [l0, l1, l2, l3, l4, some (.int x), l6, l7, l8, l9, l10, l11] [.ref s0, .int s1] h = sx_Ev S 120 258 [l0, l1, l2, l3, l4, some (.int x), l6, l7, l8, l9, l10, l11] [.int x, .ref s0, .int s1] h) ∧
  (∀ (l0 l1 l2 l3 l4 l5 l6 l7 l8 l9 l10 l11 : Option Value) (s0 : Int32) (s1 : Nat) (s2 : Int32) (h : sx_H), sx_Ev S 120 258 [l0, l1, l2, l3, l4, l5, l6, l7, l8, l9, l10, l11] [.int s0, .ref s1, .int s2] h = (sx_rd S h s1 s0).bind fun v => sx_Ev S 120 259 [l0, l1, l2, l3, l4, l5, l6, l7, l8, l9, l10, l11] [.int v, .int s2] h) ∧
  (∀ (l0 l1 l2 l3 l4 l5 l6 l7 l8 l9 l10 l11 : Option Value) (s0 : Int32) (s1 : Int32) (h : sx_H), sx_Ev S 120 259 [l0, l1, l2, l3, l4, l5, l6, l7, l8, l9, l10, l11] [.int s0, .int s1] h = sx_Ev S 120 260 [l0, l1, l2, l3, l4, l5, l6, l7, l8, l9, l10, l11] [.int (sz (3)), .int s0, .int s1] h) ∧
  (∀ (l0 l1 l2 l3 l4 l5 l6 l7 l8 l9 l10 l11 : Option Value) (s0 : Int32) (s1 : Int32) (s2 : Int32) (h : sx_H), sx_Ev S 120 260 [l0, l1, l2, l3, l4, l5, l6, l7, l8, l9, l10, l11] [.int s0, .int s1, .int s2] h = if s0 = 0 then none else sx_Ev S 120 261 [l0, l1, l2, l3, l4, l5, l6, l7, l8, l9, l10, l11] [.int (s1 - s1 / s0 * s0), .int s2] h) ∧
  (∀ (l0 l2 l3 l4 l5 l6 l7 l8 l9 l10 l11 : Option Value) (s0 : Int32) (s1 : Int32) (x : Nat) (h : sx_H), sx_Ev S 120 261 [l0, some (.ref x), l2, l3, l4, l5, l6, l7, l8, l9, l10, l11] [.int s0, .int s1] h = sx_Ev S 120 262 [l0, some (.ref x), l2, l3, l4, l5, l6, l7, l8, l9, l10, l11] [.ref x, .int s0, .int s1] h) ∧
  (∀ (l0 l1 l2 l3 l4 l6 l7 l8 l9 l10 l11 : Option Value) (s0 : Nat) (s1 : Int32) (s2 : Int32) (x : Int32) (h : sx_H), sx_Ev S 120 262 [l0, l1, l2, l3, l4, some (.int x), l6, l7, l8, l9, l10, l11] [.ref s0, .int s1, .int s2] h = sx_Ev S 120 264 [l0, l1, l2, l3, l4, some (.int x), l6, l7, l8, l9, l10, l11] [.int x, .ref s0, .int s1, .int s2] h) ∧
  (∀ (l0 l1 l2 l3 l4 l5 l6 l7 l8 l9 l10 l11 : Option Value) (s0 : Int32) (s1 : Nat) (s2 : Int32) (s3 : Int32) (h : sx_H), sx_Ev S 120 264 [l0, l1, l2, l3, l4, l5, l6, l7, l8, l9, l10, l11] [.int s0, .ref s1, .int s2, .int s3] h = sx_Ev S 120 265 [l0, l1, l2, l3, l4, l5, l6, l7, l8, l9, l10, l11] [.int (sz (1)), .int s0, .ref s1, .int s2, .int s3] h) ∧
  (∀ (l0 l1 l2 l3 l4 l5 l6 l7 l8 l9 l10 l11 : Option Value) (s0 : Int32) (s1 : Int32) (s2 : Nat) (s3 : Int32) (s4 : Int32) (h : sx_H), sx_Ev S 120 265 [l0, l1, l2, l3, l4, l5, l6, l7, l8, l9, l10, l11] [.int s0, .int s1, .ref s2, .int s3, .int s4] h = sx_Ev S 120 266 [l0, l1, l2, l3, l4, l5, l6, l7, l8, l9, l10, l11] [.int (s1 - s0), .ref s2, .int s3, .int s4] h) ∧
  (∀ (l0 l1 l2 l3 l4 l5 l6 l7 l8 l9 l10 l11 : Option Value) (s0 : Int32) (s1 : Nat) (s2 : Int32) (s3 : Int32) (h : sx_H), sx_Ev S 120 266 [l0, l1, l2, l3, l4, l5, l6, l7, l8, l9, l10, l11] [.int s0, .ref s1, .int s2, .int s3] h = (sx_rd S h s1 s0).bind fun v => sx_Ev S 120 267 [l0, l1, l2, l3, l4, l5, l6, l7, l8, l9, l10, l11] [.int v, .int s2, .int s3] h) ∧
  (∀ (l0 l1 l2 l3 l4 l5 l6 l7 l8 l9 l10 l11 : Option Value) (s0 : Int32) (s1 : Int32) (s2 : Int32) (h : sx_H), sx_Ev S 120 267 [l0, l1, l2, l3, l4, l5, l6, l7, l8, l9, l10, l11] [.int s0, .int s1, .int s2] h = sx_Ev S 120 268 [l0, l1, l2, l3, l4, l5, l6, l7, l8, l9, l10, l11] [.int (sz (3)), .int s0, .int s1, .int s2] h) ∧
  (∀ (l0 l1 l2 l3 l4 l5 l6 l7 l8 l9 l10 l11 : Option Value) (s0 : Int32) (s1 : Int32) (s2 : Int32) (s3 : Int32) (h : sx_H), sx_Ev S 120 268 [l0, l1, l2, l3, l4, l5, l6, l7, l8, l9, l10, l11] [.int s0, .int s1, .int s2, .int s3] h = if s0 = 0 then none else sx_Ev S 120 269 [l0, l1, l2, l3, l4, l5, l6, l7, l8, l9, l10, l11] [.int (s1 - s1 / s0 * s0), .int s2, .int s3] h) ∧
  (∀ (l0 l1 l2 l3 l4 l5 l6 l7 l8 l9 l10 l11 : Option Value) (s0 : Int32) (s1 : Int32) (s2 : Int32) (h : sx_H), sx_Ev S 120 269 [l0, l1, l2, l3, l4, l5, l6, l7, l8, l9, l10, l11] [.int s0, .int s1, .int s2] h = if s1 = s0 then sx_Ev S 120 272 [l0, l1, l2, l3, l4, l5, l6, l7, l8, l9, l10, l11] [.int s2] h else sx_Ev S 120 293 [l0, l1, l2, l3, l4, l5, l6, l7, l8, l9, l10, l11] [.int s2] h) ∧
  (∀ (l0 l2 l3 l4 l5 l6 l7 l8 l9 l10 l11 : Option Value) (s0 : Int32) (x : Nat) (h : sx_H), sx_Ev S 120 272 [l0, some (.ref x), l2, l3, l4, l5, l6, l7, l8, l9, l10, l11] [.int s0] h = sx_Ev S 120 273 [l0, some (.ref x), l2, l3, l4, l5, l6, l7, l8, l9, l10, l11] [.ref x, .int s0] h) ∧
  (∀ (l0 l1 l2 l3 l4 l6 l7 l8 l9 l10 l11 : Option Value) (s0 : Nat) (s1 : Int32) (x : Int32) (h : sx_H), sx_Ev S 120 273 [l0, l1, l2, l3, l4, some (.int x), l6, l7, l8, l9, l10, l11] [.ref s0, .int s1] h = sx_Ev S 120 275 [l0, l1, l2, l3, l4, some (.int x), l6, l7, l8, l9, l10, l11] [.int x, .ref s0, .int s1] h) ∧
  (∀ (l0 l1 l2 l3 l4 l5 l6 l7 l8 l9 l10 l11 : Option Value) (s0 : Int32) (s1 : Nat) (s2 : Int32) (h : sx_H), sx_Ev S 120 275 [l0, l1, l2, l3, l4, l5, l6, l7, l8, l9, l10, l11] [.int s0, .ref s1, .int s2] h = (sx_rd S h s1 s0).bind fun v => sx_Ev S 120 276 [l0, l1, l2, l3, l4, l5, l6, l7, l8, l9, l10, l11] [.int v, .int s2] h) ∧
  (∀ (l0 l1 l2 l3 l4 l5 l6 l7 l8 l9 l10 l11 : Option Value) (s0 : Int32) (s1 : Int32) (h : sx_H), sx_Ev S 120 276 [l0, l1, l2, l3, l4, l5, l6, l7, l8, l9, l10, l11] [.int s0, .int s1] h = sx_Ev S 120 277 [l0, l1, l2, l3, l4, l5, l6, l7, l8, l9, l10, l11] [.int (sz (3)), .int s0, .int s1] h) ∧
  (∀ (l0 l1 l2 l3 l4 l5 l6 l7 l8 l9 l10 l11 : Option Value) (s0 : Int32) (s1 : Int32) (s2 : Int32) (h : sx_H), sx_Ev S 120 277 [l0, l1, l2, l3, l4, l5, l6, l7, l8, l9, l10, l11] [.int s0, .int s1, .int s2] h = if s0 = 0 then none else sx_Ev S 120 278 [l0, l1, l2, l3, l4, l5, l6, l7, l8, l9, l10, l11] [.int (s1 - s1 / s0 * s0), .int s2] h) ∧
  (∀ (l0 l2 l3 l4 l5 l6 l7 l8 l9 l10 l11 : Option Value) (s0 : Int32) (s1 : Int32) (x : Nat) (h : sx_H), sx_Ev S 120 278 [l0, some (.ref x), l2, l3, l4, l5, l6, l7, l8, l9, l10, l11] [.int s0, .int s1] h = sx_Ev S 120 279 [l0, some (.ref x), l2, l3, l4, l5, l6, l7, l8, l9, l10, l11] [.ref x, .int s0, .int s1] h) ∧
  (∀ (l0 l1 l2 l3 l4 l6 l7 l8 l9 l10 l11 : Option Value) (s0 : Nat) (s1 : Int32) (s2 : Int32) (x : Int32) (h : sx_H), sx_Ev S 120 279 [l0, l1, l2, l3, l4, some (.int x), l6, l7, l8, l9, l10, l11] [.ref s0, .int s1, .int s2] h = sx_Ev S 120 281 [l0, l1, l2, l3, l4, some (.int x), l6, l7, l8, l9, l10, l11] [.int x, .ref s0, .int s1, .int s2] h) ∧
  (∀ (l0 l1 l2 l3 l4 l5 l6 l7 l8 l9 l10 l11 : Option Value) (s0 : Int32) (s1 : Nat) (s2 : Int32) (s3 : Int32) (h : sx_H), sx_Ev S 120 281 [l0, l1, l2, l3, l4, l5, l6, l7, l8, l9, l10, l11] [.int s0, .ref s1, .int s2, .int s3] h = sx_Ev S 120 282 [l0, l1, l2, l3, l4, l5, l6, l7, l8, l9, l10, l11] [.int (sz (2)), .int s0, .ref s1, .int s2, .int s3] h) ∧
  (∀ (l0 l1 l2 l3 l4 l5 l6 l7 l8 l9 l10 l11 : Option Value) (s0 : Int32) (s1 : Int32) (s2 : Nat) (s3 : Int32) (s4 : Int32) (h : sx_H), sx_Ev S 120 282 [l0, l1, l2, l3, l4, l5, l6, l7, l8, l9, l10, l11] [.int s0, .int s1, .ref s2, .int s3, .int s4] h = sx_Ev S 120 283 [l0, l1, l2, l3, l4, l5, l6, l7, l8, l9, l10, l11] [.int (s1 - s0), .ref s2, .int s3, .int s4] h) ∧
  (∀ (l0 l1 l2 l3 l4 l5 l6 l7 l8 l9 l10 l11 : Option Value) (s0 : Int32) (s1 : Nat) (s2 : Int32) (s3 : Int32) (h : sx_H), sx_Ev S 120 283 [l0, l1, l2, l3, l4, l5, l6, l7, l8, l9, l10, l11] [.int s0, .ref s1, .int s2, .int s3] h = (sx_rd S h s1 s0).bind fun v => sx_Ev S 120 284 [l0, l1, l2, l3, l4, l5, l6, l7, l8, l9, l10, l11] [.int v, .int s2, .int s3] h) ∧
  (∀ (l0 l1 l2 l3 l4 l5 l6 l7 l8 l9 l10 l11 : Option Value) (s0 : Int32) (s1 : Int32) (s2 : Int32) (h : sx_H), sx_Ev S 120 284 [l0, l1, l2, l3, l4, l5, l6, l7, l8, l9, l10, l11] [.int s0, .int s1, .int s2] h = sx_Ev S 120 285 [l0, l1, l2, l3, l4, l5, l6, l7, l8, l9, l10, l11] [.int (sz (3)), .int s0, .int s1, .int s2] h) ∧
  (∀ (l0 l1 l2 l3 l4 l5 l6 l7 l8 l9 l10 l11 : Option Value) (s0 : Int32) (s1 : Int32) (s2 : Int32) (s3 : Int32) (h : sx_H), sx_Ev S 120 285 [l0, l1, l2, l3, l4, l5, l6, l7, l8, l9, l10, l11] [.int s0, .int s1, .int s2, .int s3] h = if s0 = 0 then none else sx_Ev S 120 286 [l0, l1, l2, l3, l4, l5, l6, l7, l8, l9, l10, l11] [.int (s1 - s1 / s0 * s0), .int s2, .int s3] h) ∧
  (∀ (l0 l1 l2 l3 l4 l5 l6 l7 l8 l9 l10 l11 : Option Value) (s0 : Int32) (s1 : Int32) (s2 : Int32) (h : sx_H), sx_Ev S 120 286 [l0, l1, l2, l3, l4, l5, l6, l7, l8, l9, l10, l11] [.int s0, .int s1, .int s2] h = if s1 = s0 then sx_Ev S 120 289 [l0, l1, l2, l3, l4, l5, l6, l7, l8, l9, l10, l11] [.int s2] h else sx_Ev S 120 293 [l0, l1, l2, l3, l4, l5, l6, l7, l8, l9, l10, l11] [.int s2] h) ∧
  (∀ (l0 l1 l2 l3 l4 l5 l6 l7 l8 l9 l10 l11 : Option Value) (s0 : Int32) (h : sx_H), sx_Ev S 120 289 [l0, l1, l2, l3, l4, l5, l6, l7, l8, l9, l10, l11] [.int s0] h = sx_Ev S 120 290 [l0, l1, l2, l3, l4, l5, l6, l7, l8, l9, l10, l11] [.int (sz (1)), .int s0] h) ∧
  (∀ (l0 l1 l2 l3 l4 l5 l6 l7 l8 l9 l10 l11 : Option Value) (s0 : Int32) (s1 : Int32) (h : sx_H), sx_Ev S 120 290 [l0, l1, l2, l3, l4, l5, l6, l7, l8, l9, l10, l11] [.int s0, .int s1] h = sx_Ev S 120 294 [l0, l1, l2, l3, l4, l5, l6, l7, l8, l9, l10, l11] [.int s0, .int s1] h) ∧
  (∀ (l0 l1 l2 l3 l4 l5 l6 l7 l8 l9 l10 l11 : Option Value) (s0 : Int32) (h : sx_H), sx_Ev S 120 293 [l0, l1, l2, l3, l4, l5, l6, l7, l8, l9, l10, l11] [.int s0] h = sx_Ev S 120 294 [l0, l1, l2, l3, l4, l5, l6, l7, l8, l9, l10, l11] [.int (sz (0)), .int s0] h) ∧
  (∀ (l0 l1 l2 l3 l4 l5 l6 l7 l8 l9 l10 l11 : Option Value) (s0 : Int32) (s1 : Int32) (h : sx_H), sx_Ev S 120 294 [l0, l1, l2, l3, l4, l5, l6, l7, l8, l9, l10, l11] [.int s0, .int s1] h = sx_Ev S 120 295 [l0, l1, l2, l3, l4, l5, l6, l7, l8, l9, l10, l11] [.int (s1 + s0)] h) ∧
  (∀ (l0 l1 l2 l3 l4 l5 l6 l7 l8 l9 l10 l11 : Option Value) (s0 : Int32) (h : sx_H), sx_Ev S 120 295 [l0, l1, l2, l3, l4, l5, l6, l7, l8, l9, l10, l11] [.int s0] h = sx_Ev S 120 297 [l0, l1, l2, l3, some (.int s0), l5, l6, l7, l8, l9, l10, l11] [] h) := ⟨fun _ _ _ _ _ _ _ _ _ _ _ _ _ _ _ => sx_e_nx rfl rfl,
  fun _ _ _ _ _ _ _ _ _ _ _ _ _ _ => sx_e_nx rfl rfl,
  fun _ _ _ _ _ _ _ _ _ _ _ _ _ => sx_e_nx rfl rfl,
  fun _ _ _ _ _ _ _ _ _ _ _ _ _ => sx_e_goto rfl (by decide),
  fun _ _ _ _ _ _ _ _ _ _ _ _ _ => sx_e_nx rfl rfl,
  fun _ _ _ _ _ _ _ _ _ _ _ _ _ _ => sx_e_nx rfl rfl,
  fun _ _ _ _ _ _ _ _ _ _ _ _ _ _ _ => sx_e_ine rfl (by decide) rfl,
  fun _ _ _ _ _ _ _ _ _ _ _ _ _ => sx_e_nx rfl rfl,
  fun _ _ _ _ _ _ _ _ _ _ _ _ _ _ => sx_e_nx rfl rfl,
  fun _ _ _ _ _ _ _ _ _ _ _ _ _ _ _ => sx_e_rem rfl rfl,
  fun _ _ _ _ _ _ _ _ _ _ _ _ _ _ => sx_e_nx rfl rfl,
  fun _ _ _ _ _ _ _ _ _ _ _ _ _ _ _ => sx_e_ilt rfl (by decide) rfl,
  fun _ _ _ _ _ _ _ _ _ _ _ _ _ => sx_e_nx rfl rfl,
  fun _ _ _ _ _ _ _ _ _ _ _ _ _ _ => sx_e_nx rfl rfl,
  fun _ _ _ _ _ _ _ _ _ _ _ _ _ _ _ => sx_e_iald rfl rfl,
  fun _ _ _ _ _ _ _ _ _ _ _ _ _ _ => sx_e_lt rfl (by decide) rfl,
  fun _ _ _ _ _ _ _ _ _ _ _ _ _ => sx_e_nx rfl rfl,
  fun _ _ _ _ _ _ _ _ _ _ _ _ _ _ => sx_e_nx rfl rfl,
  fun _ _ _ _ _ _ _ _ _ _ _ _ _ _ _ => sx_e_nx rfl rfl,
  fun _ _ _ _ _ _ _ _ _ _ _ _ _ _ _ _ => sx_e_nx rfl rfl,
  fun _ _ _ _ _ _ _ _ _ _ _ _ _ _ _ => sx_e_iald rfl rfl,
  fun _ _ _ _ _ _ _ _ _ _ _ _ _ _ => sx_e_lt rfl (by decide) rfl,
  fun _ _ _ _ _ _ _ _ _ _ _ _ _ => sx_e_nx rfl rfl,
  fun _ _ _ _ _ _ _ _ _ _ _ _ _ _ => sx_e_nx rfl rfl,
  fun _ _ _ _ _ _ _ _ _ _ _ _ _ _ _ => sx_e_nx rfl rfl,
  fun _ _ _ _ _ _ _ _ _ _ _ _ _ _ _ _ => sx_e_nx rfl rfl,
  fun _ _ _ _ _ _ _ _ _ _ _ _ _ _ _ => sx_e_iald rfl rfl,
  fun _ _ _ _ _ _ _ _ _ _ _ _ _ _ => sx_e_lt rfl (by decide) rfl,
  fun _ _ _ _ _ _ _ _ _ _ _ _ _ => sx_e_nx rfl rfl,
  fun _ _ _ _ _ _ _ _ _ _ _ _ _ _ => sx_e_nx rfl rfl,
  fun _ _ _ _ _ _ _ _ _ _ _ _ _ _ _ => sx_e_nx rfl rfl,
  fun _ _ _ _ _ _ _ _ _ _ _ _ _ _ _ _ => sx_e_iald rfl rfl,
  fun _ _ _ _ _ _ _ _ _ _ _ _ _ _ _ => sx_e_nx rfl rfl,
  fun _ _ _ _ _ _ _ _ _ _ _ _ _ _ _ _ => sx_e_rem rfl rfl,
  fun _ _ _ _ _ _ _ _ _ _ _ _ _ _ _ => sx_e_nx rfl rfl,
  fun _ _ _ _ _ _ _ _ _ _ _ _ _ _ _ _ => sx_e_nx rfl rfl,
  fun _ _ _ _ _ _ _ _ _ _ _ _ _ _ _ _ _ => sx_e_nx rfl rfl,
  fun _ _ _ _ _ _ _ _ _ _ _ _ _ _ _ _ _ _ => sx_e_nx rfl rfl,
  fun _ _ _ _ _ _ _ _ _ _ _ _ _ _ _ _ _ => sx_e_iald rfl rfl,
  fun _ _ _ _ _ _ _ _ _ _ _ _ _ _ _ _ => sx_e_nx rfl rfl,
  fun _ _ _ _ _ _ _ _ _ _ _ _ _ _ _ _ _ => sx_e_rem rfl rfl,
  fun _ _ _ _ _ _ _ _ _ _ _ _ _ _ _ _ => sx_e_ine rfl (by decide) rfl,
  fun _ _ _ _ _ _ _ _ _ _ _ _ _ _ => sx_e_nx rfl rfl,
  fun _ _ _ _ _ _ _ _ _ _ _ _ _ _ _ => sx_e_nx rfl rfl,
  fun _ _ _ _ _ _ _ _ _ _ _ _ _ _ _ _ => sx_e_iald rfl rfl,
  fun _ _ _ _ _ _ _ _ _ _ _ _ _ _ _ => sx_e_nx rfl rfl,
  fun _ _ _ _ _ _ _ _ _ _ _ _ _ _ _ _ => sx_e_rem rfl rfl,
  fun _ _ _ _ _ _ _ _ _ _ _ _ _ _ _ => sx_e_nx rfl rfl,
  fun _ _ _ _ _ _ _ _ _ _ _ _ _ _ _ _ => sx_e_nx rfl rfl,
  fun _ _ _ _ _ _ _ _ _ _ _ _ _ _ _ _ _ => sx_e_nx rfl rfl,
  fun _ _ _ _ _ _ _ _ _ _ _ _ _ _ _ _ _ _ => sx_e_nx rfl rfl,
  fun _ _ _ _ _ _ _ _ _ _ _ _ _ _ _ _ _ => sx_e_iald rfl rfl,
  fun _ _ _ _ _ _ _ _ _ _ _ _ _ _ _ _ => sx_e_nx rfl rfl,
  fun _ _ _ _ _ _ _ _ _ _ _ _ _ _ _ _ _ => sx_e_rem rfl rfl,
  fun _ _ _ _ _ _ _ _ _ _ _ _ _ _ _ _ => sx_e_ine rfl (by decide) rfl,
  fun _ _ _ _ _ _ _ _ _ _ _ _ _ _ => sx_e_nx rfl rfl,
  fun _ _ _ _ _ _ _ _ _ _ _ _ _ _ _ => sx_e_goto rfl (by decide),
  fun _ _ _ _ _ _ _ _ _ _ _ _ _ _ => sx_e_nx rfl rfl,
  fun _ _ _ _ _ _ _ _ _ _ _ _ _ _ _ => sx_e_nx rfl rfl,
  fun _ _ _ _ _ _ _ _ _ _ _ _ _ _ => sx_e_nx rfl rfl⟩
set_option maxRecDepth 100000 in
theorem q120_3 (S : List Int32) : (∀ (l0 l1 l2 l3 l4 l6 l7 l8 l9 l10 l11 : Option Value) (x : Int32) (h : sx_H), sx_Ev S 120 297 [l0, l1, l2, l3, l4, some (.int x), l6, l7, l8, l9, l10, l11] [] h = sx_Ev S 120 299 [l0, l1, l2, l3, l4, some (.int x), l6, l7, l8, l9, l10, l11] [.int x] h) ∧
  (∀ (l0 l1 l3 l4 l5 l6 l7 l8 l9 l10 l11 : Option Value) (s0 : Int32) (x : Int32) (h : sx_H), sx_Ev S 120 299 [l0, l1, some (.int x), l3, l4, l5, l6, l7, l8, l9, l10, l11] [.int s0] h = sx_Ev S 120 300 [l0, l1, some (.int x), l3, l4, l5, l6, l7, l8, l9, l10, l11] [.int x, .int s0] h) ∧
  (∀ (l0 l1 l2 l3 l4 l5 l6 l7 l8 l9 l10 l11 : Option Value) (s0 : Int32) (s1 : Int32) (h : sx_H), sx_Ev S 120 300 [l0, l1, l2, l3, l4, l5, l6, l7, l8, l9, l10, l11] [.int s0, .int s1] h = if s1 < s0 then sx_Ev S 120 329 [l0, l1, l2, l3, l4, l5, l6, l7, l8, l9, l10, l11] [] h else sx_Ev S 120 303 [l0, l1, l2, l3, l4, l5, l6, l7, l8, l9, l10, l11] [] h) ∧
  (∀ (l0 l1 l2 l3 l4 l6 l7 l8 l9 l10 l11 : Option Value) (x : Int32) (h : sx_H), sx_Ev S 120 303 [l0, l1, l2, l3, l4, some (.int x), l6, l7, l8, l9, l10, l11] [] h = sx_Ev S 120 305 [l0, l1, l2, l3, l4, some (.int x), l6, l7, l8, l9, l10, l11] [.int x] h) ∧
  (∀ (l0 l2 l3 l4 l5 l6 l7 l8 l9 l10 l11 : Option Value) (s0 : Int32) (x : Nat) (h : sx_H), sx_Ev S 120 305 [l0, some (.ref x), l2, l3, l4, l5, l6, l7, l8, l9, l10, l11] [.int s0] h = sx_Ev S 120 306 [l0, some (.ref x), l2, l3, l4, l5, l6, l7, l8, l9, l10, l11] [.ref x, .int s0] h) ∧
  (∀ (l0 l1 l2 l3 l4 l5 l6 l7 l8 l9 l10 l11 : Option Value) (s0 : Nat) (s1 : Int32) (h : sx_H), sx_Ev S 120 306 [l0, l1, l2, l3, l4, l5, l6, l7, l8, l9, l10, l11] [.ref s0, .int s1] h = (sx_ints S h s0).bind fun v => sx_Ev S 120 307 [l0, l1, l2, l3, l4, l5, l6, l7, l8, l9, l10, l11] [.int (Int32.ofNat v.length), .int s1] h) ∧
  (∀ (l0 l1 l3 l4 l5 l6 l7 l8 l9 l10 l11 : Option Value) (s0 : Int32) (s1 : Int32) (x : Int32) (h : sx_H), sx_Ev S 120 307 [l0, l1, some (.int x), l3, l4, l5, l6, l7, l8, l9, l10, l11] [.int s0, .int s1] h = sx_Ev S 120 308 [l0, l1, some (.int x), l3, l4, l5, l6, l7, l8, l9, l10, l11] [.int x, .int s0, .int s1] h) ∧
  (∀ (l0 l1 l2 l3 l4 l5 l6 l7 l8 l9 l10 l11 : Option Value) (s0 : Int32) (s1 : Int32) (s2 : Int32) (h : sx_H), sx_Ev S 120 308 [l0, l1, l2, l3, l4, l5, l6, l7, l8, l9, l10, l11] [.int s0, .int s1, .int s2] h = sx_Ev S 120 309 [l0, l1, l2, l3, l4, l5, l6, l7, l8, l9, l10, l11] [.int (s1 - s0), .int s2] h) ∧
  (∀ (l0 l1 l2 l3 l4 l5 l6 l7 l8 l9 l10 l11 : Option Value) (s0 : Int32) (s1 : Int32) (h : sx_H), sx_Ev S 120 309 [l0, l1, l2, l3, l4, l5, l6, l7, l8, l9, l10, l11] [.int s0, .int s1] h = if s1 < s0 then sx_Ev S 120 312 [l0, l1, l2, l3, l4, l5, l6, l7, l8, l9, l10, l11] [] h else sx_Ev S 120 329 [l0, l1, l2, l3, l4, l5, l6, l7, l8, l9, l10, l11] [] h) ∧
  (∀ (l0 l1 l2 l3 l4 l6 l7 l8 l9 l10 l11 : Option Value) (x : Int32) (h : sx_H), sx_Ev S 120 312 [l0, l1, l2, l3, l4, some (.int x), l6, l7, l8, l9, l10, l11] [] h = sx_Ev S 120 314 [l0, l1, l2, l3, l4, some (.int x), l6, l7, l8, l9, l10, l11] [.int x] h) ∧
  (∀ (l0 l1 l3 l4 l5 l6 l7 l8 l9 l10 l11 : Option Value) (s0 : Int32) (x : Int32) (h : sx_H), sx_Ev S 120 314 [l0, l1, some (.int x), l3, l4, l5, l6, l7, l8, l9, l10, l11] [.int s0] h = sx_Ev S 120 315 [l0, l1, some (.int x), l3, l4, l5, l6, l7, l8, l9, l10, l11] [.int x, .int s0] h) ∧
  (∀ (l0 l1 l2 l3 l4 l5 l6 l7 l8 l9 l10 l11 : Option Value) (s0 : Int32) (s1 : Int32) (h : sx_H), sx_Ev S 120 315 [l0, l1, l2, l3, l4, l5, l6, l7, l8, l9, l10, l11] [.int s0, .int s1] h = if s0 = 0 then none else sx_Ev S 120 316 [l0, l1, l2, l3, l4, l5, l6, l7, l8, l9, l10, l11] [.int (s1 - s1 / s0 * s0)] h) ∧
  (∀ (l0 l1 l2 l3 l4 l5 l6 l7 l8 l9 l10 l11 : Option Value) (s0 : Int32) (h : sx_H), sx_Ev S 120 316 [l0, l1, l2, l3, l4, l5, l6, l7, l8, l9, l10, l11] [.int s0] h = if s0 = 0 then sx_Ev S 120 329 [l0, l1, l2, l3, l4, l5, l6, l7, l8, l9, l10, l11] [] h else sx_Ev S 120 319 [l0, l1, l2, l3, l4, l5, l6, l7, l8, l9, l10, l11] [] h) ∧
  (∀ (l0 l1 l2 l3 l4 l6 l7 l8 l9 l10 l11 : Option Value) (x : Int32) (h : sx_H), sx_Ev S 120 319 [l0, l1, l2, l3, l4, some (.int x), l6, l7, l8, l9, l10, l11] [] h = sx_Ev S 120 321 [l0, l1, l2, l3, l4, some (.int x), l6, l7, l8, l9, l10, l11] [.int x] h) ∧
  (∀ (l0 l1 l3 l4 l5 l6 l7 l8 l9 l10 l11 : Option Value) (s0 : Int32) (x : Int32) (h : sx_H), sx_Ev S 120 321 [l0, l1, some (.int x), l3, l4, l5, l6, l7, l8, l9, l10, l11] [.int s0] h = sx_Ev S 120 322 [l0, l1, some (.int x), l3, l4, l5, l6, l7, l8, l9, l10, l11] [.int x, .int s0] h) ∧
  (∀ (l0 l1 l2 l3 l4 l5 l6 l7 l8 l9 l10 l11 : Option Value) (s0 : Int32) (s1 : Int32) (h : sx_H), sx_Ev S 120 322 [l0, l1, l2, l3, l4, l5, l6, l7, l8, l9, l10, l11] [.int s0, .int s1] h = if s0 = 0 then none else sx_Ev S 120 323 [l0, l1, l2, l3, l4, l5, l6, l7, l8, l9, l10, l11] [.int (s1 - s1 / s0 * s0)] h) ∧
  (∀ (l0 l1 l3 l4 l5 l6 l7 l8 l9 l10 l11 : Option Value) (s0 : Int32) (x : Int32) (h : sx_H), sx_Ev S 120 323 [l0, l1, some (.int x), l3, l4, l5, l6, l7, l8, l9, l10, l11] [.int s0] h = sx_Ev S 120 324 [l0, l1, some (.int x), l3, l4, l5, l6, l7, l8, l9, l10, l11] [.int x, .int s0] h) ∧
  (∀ (l0 l1 l2 l3 l4 l5 l6 l7 l8 l9 l10 l11 : Option Value) (s0 : Int32) (s1 : Int32) (h : sx_H), sx_Ev S 120 324 [l0, l1, l2, l3, l4, l5, l6, l7, l8, l9, l10, l11] [.int s0, .int s1] h = sx_Ev S 120 325 [l0, l1, l2, l3, l4, l5, l6, l7, l8, l9, l10, l11] [.int (sz (1)), .int s0, .int s1] h) ∧
  (∀ (l0 l1 l2 l3 l4 l5 l6 l7 l8 l9 l10 l11 : Option Value) (s0 : Int32) (s1 : Int32) (s2 : Int32) (h : sx_H), sx_Ev S 120 325 [l0, l1, l2, l3, l4, l5, l6, l7, l8, l9, l10, l11] [.int s0, .int s1, .int s2] h = sx_Ev S 120 326 [l0, l1, l2, l3, l4, l5, l6, l7, l8, l9, l10, l11] [.int (s1 - s0), .int s2] h) ∧
  (∀ (l0 l1 l2 l3 l4 l5 l6 l7 l8 l9 l10 l11 : Option Value) (s0 : Int32) (s1 : Int32) (h : sx_H), sx_Ev S 120 326 [l0, l1, l2, l3, l4, l5, l6, l7, l8, l9, l10, l11] [.int s0, .int s1] h = if s1 = s0 then sx_Ev S 120 329 [l0, l1, l2, l3, l4, l5, l6, l7, l8, l9, l10, l11] [] h else sx_Ev S 120 333 [l0, l1, l2, l3, l4, l5, l6, l7, l8, l9, l10, l11] [] h) ∧
  (∀ (l0 l1 l2 l3 l4 l5 l6 l7 l8 l9 l10 l11 : Option Value) (h : sx_H), sx_Ev S 120 329 [l0, l1, l2, l3, l4, l5, l6, l7, l8, l9, l10, l11] [] h = sx_Ev S 120 330 [l0, l1, l2, l3, l4, l5, l6, l7, l8, l9, l10, l11] [.int (sz (1))] h) ∧
  (∀ (l0 l1 l2 l3 l4 l5 l6 l7 l8 l9 l10 l11 : Option Value) (s0 : Int32) (h : sx_H), sx_Ev S 120 330 [l0, l1, l2, l3, l4, l5, l6, l7, l8, l9, l10, l11] [.int s0] h = sx_Ev S 120 334 [l0, l1, l2, l3, l4, l5, l6, l7, l8, l9, l10, l11] [.int s0] h) ∧
  (∀ (l0 l1 l2 l3 l4 l5 l6 l7 l8 l9 l10 l11 : Option Value) (h : sx_H), sx_Ev S 120 333 [l0, l1, l2, l3, l4, l5, l6, l7, l8, l9, l10, l11] [] h = sx_Ev S 120 334 [l0, l1, l2, l3, l4, l5, l6, l7, l8, l9, l10, l11] [.int (sz (0))] h) ∧
  (∀ (l0 l1 l2 l3 l4 l5 l6 l7 l8 l9 l10 l11 : Option Value) (s0 : Int32) (h : sx_H), sx_Ev S 120 334 [l0, l1, l2, l3, l4, l5, l6, l7, l8, l9, l10, l11] [.int s0] h = sx_Ev S 120 336 [l0, l1, l2, l3, l4, l5, some (.int s0), l7, l8, l9, l10, l11] [] h) ∧
  (∀ (l0 l1 l2 l3 l5 l6 l7 l8 l9 l10 l11 : Option Value) (x : Int32) (h : sx_H), sx_Ev S 120 336 [l0, l1, l2, l3, some (.int x), l5, l6, l7, l8, l9, l10, l11] [] h = sx_Ev S 120 338 [l0, l1, l2, l3, some (.int x), l5, l6, l7, l8, l9, l10, l11] [.int x] h) ∧
  (∀ (l0 l1 l2 l4 l5 l6 l7 l8 l9 l10 l11 : Option Value) (s0 : Int32) (x : Int32) (h : sx_H), sx_Ev S 120 338 [l0, l1, l2, some (.int x), l4, l5, l6, l7, l8, l9, l10, l11] [.int s0] h = sx_Ev S 120 339 [l0, l1, l2, some (.int x), l4, l5, l6, l7, l8, l9, l10, l11] [.int x, .int s0] h) ∧
  (∀ (l0 l1 l2 l3 l4 l5 l6 l7 l8 l9 l10 l11 : Option Value) (s0 : Int32) (s1 : Int32) (h : sx_H), sx_Ev S 120 339 [l0, l1, l2, l3, l4, l5, l6, l7, l8, l9, l10, l11] [.int s0, .int s1] h = sx_Ev S 120 341 [l0, l1, l2, l3, l4, l5, l6, l7, l8, l9, l10, l11] [.int (sz (8)), .int s0, .int s1] h) ∧
  (∀ (l0 l1 l2 l3 l4 l5 l6 l7 l8 l9 l10 l11 : Option Value) (s0 : Int32) (s1 : Int32) (s2 : Int32) (h : sx_H), sx_Ev S 120 341 [l0, l1, l2, l3, l4, l5, l6, l7, l8, l9, l10, l11] [.int s0, .int s1, .int s2] h = if s1 = s0 then sx_Ev S 120 344 [l0, l1, l2, l3, l4, l5, l6, l7, l8, l9, l10, l11] [.int s2] h else sx_Ev S 120 380 [l0, l1, l2, l3, l4, l5, l6, l7, l8, l9, l10, l11] [.int s2] h) ∧
  (∀ (l0 l1 l2 l3 l4 l5 l7 l8 l9 l10 l11 : Option Value) (s0 : Int32) (x : Int32) (h : sx_H), sx_Ev S 120 344 [l0, l1, l2, l3, l4, l5, some (.int x), l7, l8, l9, l10, l11] [.int s0] h = sx_Ev S 120 346 [l0, l1, l2, l3, l4, l5, some (.int x), l7, l8, l9, l10, l11] [.int x, .int s0] h) ∧
  (∀ (l0 l1 l2 l3 l4 l5 l6 l7 l8 l9 l10 l11 : Option Value) (s0 : Int32) (s1 : Int32) (h : sx_H), sx_Ev S 120 346 [l0, l1, l2, l3, l4, l5, l6, l7, l8, l9, l10, l11] [.int s0, .int s1] h = if s0 = 0 then sx_Ev S 120 380 [l0, l1, l2, l3, l4, l5, l6, l7, l8, l9, l10, l11] [.int s1] h else sx_Ev S 120 349 [l0, l1, l2, l3, l4, l5, l6, l7, l8, l9, l10, l11] [.int s1] h) ∧
  (∀ (l0 l2 l3 l4 l5 l6 l7 l8 l9 l10 l11 : Option Value) (s0 : Int32) (x : Nat) (h : sx_H), sx_Ev S 120 349 [l0, some (.ref x), l2, l3, l4, l5, l6, l7, l8, l9, l10, l11] [.int s0] h = sx_Ev S 120 350 [l0, some (.ref x), l2, l3, l4, l5, l6, l7, l8, l9, l10, l11] [.ref x, .int s0] h) ∧
  (∀ (l0 l1 l2 l3 l4 l5 l6 l7 l8 l9 l10 l11 : Option Value) (s0 : Nat) (s1 : Int32) (h : sx_H), sx_Ev S 120 350 [l0, l1, l2, l3, l4, l5, l6, l7, l8, l9, l10, l11] [.ref s0, .int s1] h = sx_Ev S 120 351 [l0, l1, l2, l3, l4, l5, l6, l7, l8, l9, l10, l11] [.int (sz (0)), .ref s0, .int s1] h) ∧
  (∀ (l0 l1 l2 l3 l4 l5 l6 l7 l8 l9 l10 l11 : Option Value) (s0 : Int32) (s1 : Nat) (s2 : Int32) (h : sx_H), sx_Ev S 120 351 [l0, l1, l2, l3, l4, l5, l6, l7, l8, l9, l10, l11] [.int s0, .ref s1, .int s2] h = (sx_rd S h s1 s0).bind fun v => sx_Ev S 120 352 [l0, l1, l2, l3, l4, l5, l6, l7, l8, l9, l10, l11] [.int v, .int s2] h) ∧
  (∀ (l0 l1 l2 l3 l4 l5 l6 l7 l8 l9 l10 l11 : Option Value) (s0 : Int32) (s1 : Int32) (h : sx_H), sx_Ev S 120 352 [l0, l1, l2, l3, l4, l5, l6, l7, l8, l9, l10, l11] [.int s0, .int s1] h = if s0 < 0 then sx_Ev S 120 380 [l0, l1, l2, l3, l4, l5, l6, l7, l8, l9, l10, l11] [.int s1] h else sx_Ev S 120 355 [l0, l1, l2, l3, l4, l5, l6, l7, l8, l9, l10, l11] [.int s1] h) ∧
  (∀ (l0 l2 l3 l4 l5 l6 l7 l8 l9 l10 l11 : Option Value) (s0 : Int32) (x : Nat) (h : sx_H), sx_Ev S 120 355 [l0, some (.ref x), l2, l3, l4, l5, l6, l7, l8, l9, l10, l11] [.int s0] h = sx_Ev S 120 356 [l0, some (.ref x), l2, l3, l4, l5, l6, l7, l8, l9, l10, l11] [.ref x, .int s0] h) ∧
  (∀ (l0 l1 l2 l3 l4 l6 l7 l8 l9 l10 l11 : Option Value) (s0 : Nat) (s1 : Int32) (x : Int32) (h : sx_H), sx_Ev S 120 356 [l0, l1, l2, l3, l4, some (.int x), l6, l7, l8, l9, l10, l11] [.ref s0, .int s1] h = sx_Ev S 120 358 [l0, l1, l2, l3, l4, some (.int x), l6, l7, l8, l9, l10, l11] [.int x, .ref s0, .int s1] h) ∧
  (∀ (l0 l1 l2 l3 l4 l5 l6 l7 l8 l9 l10 l11 : Option Value) (s0 : Int32) (s1 : Nat) (s2 : Int32) (h : sx_H), sx_Ev S 120 358 [l0, l1, l2, l3, l4, l5, l6, l7, l8, l9, l10, l11] [.int s0, .ref s1, .int s2] h = (sx_rd S h s1 s0).bind fun v => sx_Ev S 120 359 [l0, l1, l2, l3, l4, l5, l6, l7, l8, l9, l10, l11] [.int v, .int s2] h) ∧
  (∀ (l0 l1 l2 l3 l4 l5 l6 l7 l8 l9 l10 l11 : Option Value) (s0 : Int32) (s1 : Int32) (h : sx_H), sx_Ev S 120 359 [l0, l1, l2, l3, l4, l5, l6, l7, l8, l9, l10, l11] [.int s0, .int s1] h = if s0 < 0 then sx_Ev S 120 380 [l0, l1, l2, l3, l4, l5, l6, l7, l8, l9, l10, l11] [.int s1] h else sx_Ev S 120 362 [l0, l1, l2, l3, l4, l5, l6, l7, l8, l9, l10, l11] [.int s1] h) ∧
  (∀ (l0 l2 l3 l4 l5 l6 l7 l8 l9 l10 l11 : Option Value) (s0 : Int32) (x : Nat) (h : sx_H), sx_Ev S 120 362 [l0, some (.ref x), l2, l3, l4, l5, l6, l7, l8, l9, l10, l11] [.int s0] h = sx_Ev S 120 363 [l0, some (.ref x), l2, l3, l4, l5, l6, l7, l8, l9, l10, l11] [.ref x, .int s0] h) ∧
  (∀ (l0 l1 l2 l3 l4 l6 l7 l8 l9 l10 l11 : Option Value) (s0 : Nat) (s1 : Int32) (x : Int32) (h : sx_H), sx_Ev S 120 363 [l0, l1, l2, l3, l4, some (.int x), l6, l7, l8, l9, l10, l11] [.ref s0, .int s1] h = sx_Ev S 120 365 [l0, l1, l2, l3, l4, some (.int x), l6, l7, l8, l9, l10, l11] [.int x, .ref s0, .int s1] h) ∧
  (∀ (l0 l1 l2 l3 l4 l5 l6 l7 l8 l9 l10 l11 : Option Value) (s0 : Int32) (s1 : Nat) (s2 : Int32) (h : sx_H), sx_Ev S 120 365 [l0, l1, l2, l3, l4, l5, l6, l7, l8, l9, l10, l11] [.int s0, .ref s1, .int s2] h = (sx_rd S h s1 s0).bind fun v => sx_Ev S 120 366 [l0, l1, l2, l3, l4, l5, l6, l7, l8, l9, l10, l11] [.int v, .int s2] h) ∧
  (∀ (l0 l1 l2 l3 l4 l5 l6 l7 l8 l9 l10 l11 : Option Value) (s0 : Int32) (s1 : Int32) (h : sx_H), sx_Ev S 120 366 [l0, l1, l2, l3, l4, l5, l6, l7, l8, l9, l10, l11] [.int s0, .int s1] h = sx_Ev S 120 367 [l0, l1, l2, l3, l4, l5, l6, l7, l8, l9, l10, l11] [.int (sz (3)), .int s0, .int s1] h) ∧
  (∀ (l0 l1 l2 l3 l4 l5 l6 l7 l8 l9 l10 l11 : Option Value) (s0 : Int32) (s1 : Int32) (s2 : Int32) (h : sx_H), sx_Ev S 120 367 [l0, l1, l2, l3, l4, l5, l6, l7, l8, l9, l10, l11] [.int s0, .int s1, .int s2] h = if s0 = 0 then none else sx_Ev S 120 368 [l0, l1, l2, l3, l4, l5, l6, l7, l8, l9, l10, l11] [.int (s1 - s1 / s0 * s0), .int s2] h) ∧
  (∀ (l0 l2 l3 l4 l5 l6 l7 l8 l9 l10 l11 : Option Value) (s0 : Int32) (s1 : Int32) (x : Nat) (h : sx_H), sx_Ev S 120 368 [l0, some (.ref x), l2, l3, l4, l5, l6, l7, l8, l9, l10, l11] [.int s0, .int s1] h = sx_Ev S 120 369 [l0, some (.ref x), l2, l3, l4, l5, l6, l7, l8, l9, l10, l11] [.ref x, .int s0, .int s1] h) ∧
  (∀ (l0 l1 l2 l3 l4 l5 l6 l7 l8 l9 l10 l11 : Option Value) (s0 : Nat) (s1 : Int32) (s2 : Int32) (h : sx_H), sx_Ev S 120 369 [l0, l1, l2, l3, l4, l5, l6, l7, l8, l9, l10, l11] [.ref s0, .int s1, .int s2] h = sx_Ev S 120 370 [l0, l1, l2, l3, l4, l5, l6, l7, l8, l9, l10, l11] [.int (sz (0)), .ref s0, .int s1, .int s2] h) ∧
  (∀ (l0 l1 l2 l3 l4 l5 l6 l7 l8 l9 l10 l11 : Option Value) (s0 : Int32) (s1 : Nat) (s2 : Int32) (s3 : Int32) (h : sx_H), sx_Ev S 120 370 [l0, l1, l2, l3, l4, l5, l6, l7, l8, l9, l10, l11] [.int s0, .ref s1, .int s2, .int s3] h = (sx_rd S h s1 s0).bind fun v => sx_Ev S 120 371 [l0, l1, l2, l3, l4, l5, l6, l7, l8, l9, l10, l11] [.int v, .int s2, .int s3] h) ∧
  (∀ (l0 l1 l2 l3 l4 l5 l6 l7 l8 l9 l10 l11 : Option Value) (s0 : Int32) (s1 : Int32) (s2 : Int32) (h : sx_H), sx_Ev S 120 371 [l0, l1, l2, l3, l4, l5, l6, l7, l8, l9, l10, l11] [.int s0, .int s1, .int s2] h = sx_Ev S 120 372 [l0, l1, l2, l3, l4, l5, l6, l7, l8, l9, l10, l11] [.int (sz (3)), .int s0, .int s1, .int s2] h) ∧
  (∀ (l0 l1 l2 l3 l4 l5 l6 l7 l8 l9 l10 l11 : Option Value) (s0 : Int32) (s1 : Int32) (s2 : Int32) (s3 : Int32) (h : sx_H), sx_Ev S 120 372 [l0, l1, l2, l3, l4, l5, l6, l7, l8, l9, l10, l11] [.int s0, .int s1, .int s2, .int s3] h = if s0 = 0 then none else sx_Ev S 120 373 [l0, l1, l2, l3, l4, l5, l6, l7, l8, l9, l10, l11] [.int (s1 - s1 / s0 * s0), .int s2, .int s3] h) ∧
  (∀ (l0 l1 l2 l3 l4 l5 l6 l7 l8 l9 l10 l11 : Option Value) (s0 : Int32) (s1 : Int32) (s2 : Int32) (h : sx_H), sx_Ev S 120 373 [l0, l1, l2, l3, l4, l5, l6, l7, l8, l9, l10, l11] [.int s0, .int s1, .int s2] h = if s1 = s0 then sx_Ev S 120 380 [l0, l1, l2, l3, l4, l5, l6, l7, l8, l9, l10, l11] [.int s2] h else sx_Ev S 120 376 [l0, l1, l2, l3, l4, l5, l6, l7, l8, l9, l10, l11] [.int s2] h) ∧
  (∀ (l0 l1 l2 l3 l4 l5 l6 l7 l8 l9 l10 l11 : Option Value) (s0 : Int32) (h : sx_H), sx_Ev S 120 376 [l0, l1, l2, l3, l4, l5, l6, l7, l8, l9, l10, l11] [.int s0] h = sx_Ev S 120 377 [l0, l1, l2, l3, l4, l5, l6, l7, l8, l9, l10, l11] [.int (sz (1)), .int s0] h) ∧
  (∀ (l0 l1 l2 l3 l4 l5 l6 l7 l8 l9 l10 l11 : Option Value) (s0 : Int32) (s1 : Int32) (h : sx_H), sx_Ev S 120 377 [l0, l1, l2, l3, l4, l5, l6, l7, l8, l9, l10, l11] [.int s0, .int s1] h = sx_Ev S 120 381 [l0, l1, l2, l3, l4, l5, l6, l7, l8, l9, l10, l11] [.int s0, .int s1] h) ∧
  (∀ (l0 l1 l2 l3 l4 l5 l6 l7 l8 l9 l10 l11 : Option Value) (s0 : Int32) (h : sx_H), sx_Ev S 120 380 [l0, l1, l2, l3, l4, l5, l6, l7, l8, l9, l10, l11] [.int s0] h = sx_Ev S 120 381 [l0, l1, l2, l3, l4, l5, l6, l7, l8, l9, l10, l11] [.int (sz (0)), .int s0] h) ∧
  (∀ (l0 l1 l2 l3 l4 l5 l6 l7 l8 l9 l10 l11 : Option Value) (s0 : Int32) (s1 : Int32) (h : sx_H), sx_Ev S 120 381 [l0, l1, l2, l3, l4, l5, l6, l7, l8, l9, l10, l11] [.int s0, .int s1] h = sx_Ev S 120 382 [l0, l1, l2, l3, l4, l5, l6, l7, l8, l9, l10, l11] [.int (s1 + s0)] h) ∧
  (∀ (l0 l1 l2 l3 l4 l5 l6 l7 l8 l9 l10 l11 : Option Value) (s0 : Int32) (h : sx_H), sx_Ev S 120 382 [l0, l1, l2, l3, l4, l5, l6, l7, l8, l9, l10, l11] [.int s0] h = sx_Ev S 120 384 [l0, l1, l2, l3, some (.int s0), l5, l6, l7, l8, l9, l10, l11] [] h) ∧
  (∀ (l0 l1 l2 l3 l4 l6 l7 l8 l9 l10 l11 : Option Value) (x : Int32) (h : sx_H), sx_Ev S 120 384 [l0, l1, l2, l3, l4, some (.int x), l6, l7, l8, l9, l10, l11] [] h = sx_Ev S 120 387 [l0, l1, l2, l3, l4, some (.int (x + sz (1))), l6, l7, l8, l9, l10, l11] [] h) ∧
  (∀ (l0 l1 l2 l3 l4 l5 l6 l7 l8 l9 l10 l11 : Option Value) (h : sx_H), sx_Ev S 120 387 [l0, l1, l2, l3, l4, l5, l6, l7, l8, l9, l10, l11] [] h = sx_Ev S 120 6 [l0, l1, l2, l3, l4, l5, l6, l7, l8, l9, l10, l11] [] h) ∧
  (∀ (l0 l1 l2 l3 l5 l6 l7 l8 l9 l10 l11 : Option Value) (x : Int32) (h : sx_H), sx_Ev S 120 390 [l0, l1, l2, l3, some (.int x), l5, l6, l7, l8, l9, l10, l11] [] h = sx_Ev S 120 392 [l0, l1, l2, l3, some (.int x), l5, l6, l7, l8, l9, l10, l11] [.int x] h) ∧
  (∀ (l0 l1 l2 l3 l4 l5 l6 l7 l8 l9 l10 l11 : Option Value) (s0 : Int32) (h : sx_H), sx_Ev S 120 392 [l0, l1, l2, l3, l4, l5, l6, l7, l8, l9, l10, l11] [.int s0] h = some (.inl (some (.int s0)), h)) := ⟨fun _ _ _ _ _ _ _ _ _ _ _ _ _ => sx_e_nx rfl rfl,
  fun _ _ _ _ _ _ _ _ _ _ _ _ _ _ => sx_e_nx rfl rfl,
  fun _ _ _ _ _ _ _ _ _ _ _ _ _ _ _ => sx_e_ilt rfl (by decide) rfl,
  fun _ _ _ _ _ _ _ _ _ _ _ _ _ => sx_e_nx rfl rfl,
  fun _ _ _ _ _ _ _ _ _ _ _ _ _ _ => sx_e_nx rfl rfl,
  fun _ _ _ _ _ _ _ _ _ _ _ _ _ _ _ => sx_e_alen rfl rfl,
  fun _ _ _ _ _ _ _ _ _ _ _ _ _ _ _ => sx_e_nx rfl rfl,
  fun _ _ _ _ _ _ _ _ _ _ _ _ _ _ _ _ => sx_e_nx rfl rfl,
  fun _ _ _ _ _ _ _ _ _ _ _ _ _ _ _ => sx_e_ige rfl (by decide) rfl,
  fun _ _ _ _ _ _ _ _ _ _ _ _ _ => sx_e_nx rfl rfl,
  fun _ _ _ _ _ _ _ _ _ _ _ _ _ _ => sx_e_nx rfl rfl,
  fun _ _ _ _ _ _ _ _ _ _ _ _ _ _ _ => sx_e_rem rfl rfl,
  fun _ _ _ _ _ _ _ _ _ _ _ _ _ _ => sx_e_eq rfl (by decide) rfl,
  fun _ _ _ _ _ _ _ _ _ _ _ _ _ => sx_e_nx rfl rfl,
  fun _ _ _ _ _ _ _ _ _ _ _ _ _ _ => sx_e_nx rfl rfl,
  fun _ _ _ _ _ _ _ _ _ _ _ _ _ _ _ => sx_e_rem rfl rfl,
  fun _ _ _ _ _ _ _ _ _ _ _ _ _ _ => sx_e_nx rfl rfl,
  fun _ _ _ _ _ _ _ _ _ _ _ _ _ _ _ => sx_e_nx rfl rfl,
  fun _ _ _ _ _ _ _ _ _ _ _ _ _ _ _ _ => sx_e_nx rfl rfl,
  fun _ _ _ _ _ _ _ _ _ _ _ _ _ _ _ => sx_e_ine rfl (by decide) rfl,
  fun _ _ _ _ _ _ _ _ _ _ _ _ _ => sx_e_nx rfl rfl,
  fun _ _ _ _ _ _ _ _ _ _ _ _ _ _ => sx_e_goto rfl (by decide),
  fun _ _ _ _ _ _ _ _ _ _ _ _ _ => sx_e_nx rfl rfl,
  fun _ _ _ _ _ _ _ _ _ _ _ _ _ _ => sx_e_nx rfl rfl,
  fun _ _ _ _ _ _ _ _ _ _ _ _ _ => sx_e_nx rfl rfl,
  fun _ _ _ _ _ _ _ _ _ _ _ _ _ _ => sx_e_nx rfl rfl,
  fun _ _ _ _ _ _ _ _ _ _ _ _ _ _ _ => sx_e_bi rfl (by decide +kernel) rfl,
  fun _ _ _ _ _ _ _ _ _ _ _ _ _ _ _ _ => sx_e_ine rfl (by decide) rfl,
  fun _ _ _ _ _ _ _ _ _ _ _ _ _ _ => sx_e_nx rfl rfl,
  fun _ _ _ _ _ _ _ _ _ _ _ _ _ _ _ => sx_e_eq rfl (by decide) rfl,
  fun _ _ _ _ _ _ _ _ _ _ _ _ _ _ => sx_e_nx rfl rfl,
  fun _ _ _ _ _ _ _ _ _ _ _ _ _ _ _ => sx_e_nx rfl rfl,
  fun _ _ _ _ _ _ _ _ _ _ _ _ _ _ _ _ => sx_e_iald rfl rfl,
  fun _ _ _ _ _ _ _ _ _ _ _ _ _ _ _ => sx_e_lt rfl (by decide) rfl,
  fun _ _ _ _ _ _ _ _ _ _ _ _ _ _ => sx_e_nx rfl rfl,
  fun _ _ _ _ _ _ _ _ _ _ _ _ _ _ _ => sx_e_nx rfl rfl,
  fun _ _ _ _ _ _ _ _ _ _ _ _ _ _ _ _ => sx_e_iald rfl rfl,
  fun _ _ _ _ _ _ _ _ _ _ _ _ _ _ _ => sx_e_lt rfl (by decide) rfl,
  fun _ _ _ _ _ _ _ _ _ _ _ _ _ _ => sx_e_nx rfl rfl,
  fun _ _ _ _ _ _ _ _ _ _ _ _ _ _ _ => sx_e_nx rfl rfl,
  fun _ _ _ _ _ _ _ _ _ _ _ _ _ _ _ _ => sx_e_iald rfl rfl,
  fun _ _ _ _ _ _ _ _ _ _ _ _ _ _ _ => sx_e_nx rfl rfl,
  fun _ _ _ _ _ _ _ _ _ _ _ _ _ _ _ _ => sx_e_rem rfl rfl,
  fun _ _ _ _ _ _ _ _ _ _ _ _ _ _ _ => sx_e_nx rfl rfl,
  fun _ _ _ _ _ _ _ _ _ _ _ _ _ _ _ _ => sx_e_nx rfl rfl,
  fun _ _ _ _ _ _ _ _ _ _ _ _ _ _ _ _ _ => sx_e_iald rfl rfl,
  fun _ _ _ _ _ _ _ _ _ _ _ _ _ _ _ _ => sx_e_nx rfl rfl,
  fun _ _ _ _ _ _ _ _ _ _ _ _ _ _ _ _ _ => sx_e_rem rfl rfl,
  fun _ _ _ _ _ _ _ _ _ _ _ _ _ _ _ _ => sx_e_ieq rfl (by decide) rfl,
  fun _ _ _ _ _ _ _ _ _ _ _ _ _ _ => sx_e_nx rfl rfl,
  fun _ _ _ _ _ _ _ _ _ _ _ _ _ _ _ => sx_e_goto rfl (by decide),
  fun _ _ _ _ _ _ _ _ _ _ _ _ _ _ => sx_e_nx rfl rfl,
  fun _ _ _ _ _ _ _ _ _ _ _ _ _ _ _ => sx_e_nx rfl rfl,
  fun _ _ _ _ _ _ _ _ _ _ _ _ _ _ => sx_e_nx rfl rfl,
  fun _ _ _ _ _ _ _ _ _ _ _ _ _ => sx_e_nx rfl rfl,
  fun _ _ _ _ _ _ _ _ _ _ _ _ _ => sx_e_goto rfl (by decide),
  fun _ _ _ _ _ _ _ _ _ _ _ _ _ => sx_e_nx rfl rfl,
  fun _ _ _ _ _ _ _ _ _ _ _ _ _ _ => sx_e_ret rfl rfl rfl⟩
