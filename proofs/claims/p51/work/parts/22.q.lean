/-! EQUATIONS of the methods 35 to 65: printed by wip/p51/gen2.py -/
/-- 35: J9_floorMod_7cf53 (II)I -/
theorem c35_q (S : List Int32) : ∀ (a0 : Int32) (a1 : Int32) (h : sx_H), sx_Cl S 35 [.int a0, .int a1] h = sx_Ev S 35 0 [some (.int a0), some (.int a1), none] [] h := fun _ _ _ => rfl
theorem q35 (S : List Int32) : (∀ (l1 l2 : Option Value) (x : Int32) (h : sx_H), sx_Ev S 35 0 [some (.int x), l1, l2] [] h = sx_Ev S 35 1 [some (.int x), l1, l2] [.int x] h) ∧
  (∀ (l0 l2 : Option Value) (s0 : Int32) (x : Int32) (h : sx_H), sx_Ev S 35 1 [l0, some (.int x), l2] [.int s0] h = sx_Ev S 35 2 [l0, some (.int x), l2] [.int x, .int s0] h) ∧
  (∀ (l0 l1 l2 : Option Value) (s0 : Int32) (s1 : Int32) (h : sx_H), sx_Ev S 35 2 [l0, l1, l2] [.int s0, .int s1] h = if s0 = 0 then none else sx_Ev S 35 3 [l0, l1, l2] [.int (s1 - s1 / s0 * s0)] h) ∧
  (∀ (l0 l1 l2 : Option Value) (s0 : Int32) (h : sx_H), sx_Ev S 35 3 [l0, l1, l2] [.int s0] h = sx_Ev S 35 4 [l0, l1, some (.int s0)] [] h) ∧
  (∀ (l1 l2 : Option Value) (x : Int32) (h : sx_H), sx_Ev S 35 4 [some (.int x), l1, l2] [] h = sx_Ev S 35 5 [some (.int x), l1, l2] [.int x] h) ∧
  (∀ (l0 l2 : Option Value) (s0 : Int32) (x : Int32) (h : sx_H), sx_Ev S 35 5 [l0, some (.int x), l2] [.int s0] h = sx_Ev S 35 6 [l0, some (.int x), l2] [.int x, .int s0] h) ∧
  (∀ (l0 l1 l2 : Option Value) (s0 : Int32) (s1 : Int32) (h : sx_H), sx_Ev S 35 6 [l0, l1, l2] [.int s0, .int s1] h = sx_Ev S 35 7 [l0, l1, l2] [.int (s1 ^^^ s0)] h) ∧
  (∀ (l0 l1 l2 : Option Value) (s0 : Int32) (h : sx_H), sx_Ev S 35 7 [l0, l1, l2] [.int s0] h = if s0 < 0 then sx_Ev S 35 10 [l0, l1, l2] [] h else sx_Ev S 35 18 [l0, l1, l2] [] h) ∧
  (∀ (l0 l1 : Option Value) (x : Int32) (h : sx_H), sx_Ev S 35 10 [l0, l1, some (.int x)] [] h = sx_Ev S 35 11 [l0, l1, some (.int x)] [.int x] h) ∧
  (∀ (l0 l1 l2 : Option Value) (s0 : Int32) (h : sx_H), sx_Ev S 35 11 [l0, l1, l2] [.int s0] h = if s0 = 0 then sx_Ev S 35 18 [l0, l1, l2] [] h else sx_Ev S 35 14 [l0, l1, l2] [] h) ∧
  (∀ (l0 l1 : Option Value) (x : Int32) (h : sx_H), sx_Ev S 35 14 [l0, l1, some (.int x)] [] h = sx_Ev S 35 15 [l0, l1, some (.int x)] [.int x] h) ∧
  (∀ (l0 l2 : Option Value) (s0 : Int32) (x : Int32) (h : sx_H), sx_Ev S 35 15 [l0, some (.int x), l2] [.int s0] h = sx_Ev S 35 16 [l0, some (.int x), l2] [.int x, .int s0] h) ∧
  (∀ (l0 l1 l2 : Option Value) (s0 : Int32) (s1 : Int32) (h : sx_H), sx_Ev S 35 16 [l0, l1, l2] [.int s0, .int s1] h = sx_Ev S 35 17 [l0, l1, l2] [.int (s1 + s0)] h) ∧
  (∀ (l0 l1 l2 : Option Value) (s0 : Int32) (h : sx_H), sx_Ev S 35 17 [l0, l1, l2] [.int s0] h = some (.inl (some (.int s0)), h)) ∧
  (∀ (l0 l1 : Option Value) (x : Int32) (h : sx_H), sx_Ev S 35 18 [l0, l1, some (.int x)] [] h = sx_Ev S 35 19 [l0, l1, some (.int x)] [.int x] h) ∧
  (∀ (l0 l1 l2 : Option Value) (s0 : Int32) (h : sx_H), sx_Ev S 35 19 [l0, l1, l2] [.int s0] h = some (.inl (some (.int s0)), h)) := ⟨fun _ _ _ _ => sx_e_nx rfl rfl,
  fun _ _ _ _ _ => sx_e_nx rfl rfl,
  fun _ _ _ _ _ _ => sx_e_rem rfl rfl,
  fun _ _ _ _ _ => sx_e_nx rfl rfl,
  fun _ _ _ _ => sx_e_nx rfl rfl,
  fun _ _ _ _ _ => sx_e_nx rfl rfl,
  fun _ _ _ _ _ _ => sx_e_nx rfl rfl,
  fun _ _ _ _ _ => sx_e_ge rfl (by decide) rfl,
  fun _ _ _ _ => sx_e_nx rfl rfl,
  fun _ _ _ _ _ => sx_e_eq rfl (by decide) rfl,
  fun _ _ _ _ => sx_e_nx rfl rfl,
  fun _ _ _ _ _ => sx_e_nx rfl rfl,
  fun _ _ _ _ _ _ => sx_e_nx rfl rfl,
  fun _ _ _ _ _ => sx_e_ret rfl rfl rfl,
  fun _ _ _ _ => sx_e_nx rfl rfl,
  fun _ _ _ _ _ => sx_e_ret rfl rfl rfl⟩
/-- 36: X1_spread (III)I -/
theorem c36_q (S : List Int32) : ∀ (a0 : Nat) (a1 : Int32) (a2 : Int32) (a3 : Int32) (h : sx_H), sx_Cl S 36 [.ref a0, .int a1, .int a2, .int a3] h = sx_Ev S 36 0 [some (.ref a0), some (.int a1), some (.int a2), some (.int a3), none, none, none, none, none, none] [] h := fun _ _ _ _ _ => rfl
theorem h36_18 (S : List Int32) : (∀ (l0 l1 l2 l3 l4 l6 l7 l8 l9 : Option Value) (x : Int32) (h : sx_H), sx_Ev S 36 18 [l0, l1, l2, l3, l4, some (.int x), l6, l7, l8, l9] [] h = sx_Ev S 36 20 [l0, l1, l2, l3, l4, some (.int x), l6, l7, l8, l9] [.int x] h) := fun _ _ _ _ _ _ _ _ _ _ _ => sx_e_nx rfl rfl
theorem h36_30 (S : List Int32) : (∀ (l0 l1 l2 l3 l4 l5 l7 l8 l9 : Option Value) (x : Int32) (h : sx_H), sx_Ev S 36 30 [l0, l1, l2, l3, l4, l5, some (.int x), l7, l8, l9] [] h = sx_Ev S 36 32 [l0, l1, l2, l3, l4, l5, some (.int x), l7, l8, l9] [.int x] h) := fun _ _ _ _ _ _ _ _ _ _ _ => sx_e_nx rfl rfl
theorem q36_0 (S : List Int32) : (∀ (l0 l2 l3 l4 l5 l6 l7 l8 l9 : Option Value) (x : Int32) (h : sx_H), sx_Ev S 36 0 [l0, some (.int x), l2, l3, l4, l5, l6, l7, l8, l9] [] h = sx_Ev S 36 1 [l0, some (.int x), l2, l3, l4, l5, l6, l7, l8, l9] [.int x] h) ∧
  (∀ (l0 l1 l2 l3 l4 l5 l6 l7 l8 l9 : Option Value) (s0 : Int32) (h : sx_H), sx_Ev S 36 1 [l0, l1, l2, l3, l4, l5, l6, l7, l8, l9] [.int s0] h = sx_Ev S 36 2 [l0, l1, l2, l3, l4, l5, l6, l7, l8, l9] [.int (sz (1)), .int s0] h) ∧
  (∀ (l0 l1 l2 l3 l4 l5 l6 l7 l8 l9 : Option Value) (s0 : Int32) (s1 : Int32) (h : sx_H), sx_Ev S 36 2 [l0, l1, l2, l3, l4, l5, l6, l7, l8, l9] [.int s0, .int s1] h = if s1 < s0 then sx_Ev S 36 10 [l0, l1, l2, l3, l4, l5, l6, l7, l8, l9] [] h else sx_Ev S 36 5 [l0, l1, l2, l3, l4, l5, l6, l7, l8, l9] [] h) ∧
  (∀ (l0 l1 l3 l4 l5 l6 l7 l8 l9 : Option Value) (x : Int32) (h : sx_H), sx_Ev S 36 5 [l0, l1, some (.int x), l3, l4, l5, l6, l7, l8, l9] [] h = sx_Ev S 36 6 [l0, l1, some (.int x), l3, l4, l5, l6, l7, l8, l9] [.int x] h) ∧
  (∀ (l0 l1 l2 l3 l4 l5 l6 l7 l8 l9 : Option Value) (s0 : Int32) (h : sx_H), sx_Ev S 36 6 [l0, l1, l2, l3, l4, l5, l6, l7, l8, l9] [.int s0] h = sx_Ev S 36 7 [l0, l1, l2, l3, l4, l5, l6, l7, l8, l9] [.int (sz (1)), .int s0] h) ∧
  (∀ (l0 l1 l2 l3 l4 l5 l6 l7 l8 l9 : Option Value) (s0 : Int32) (s1 : Int32) (h : sx_H), sx_Ev S 36 7 [l0, l1, l2, l3, l4, l5, l6, l7, l8, l9] [.int s0, .int s1] h = if s1 < s0 then sx_Ev S 36 10 [l0, l1, l2, l3, l4, l5, l6, l7, l8, l9] [] h else sx_Ev S 36 12 [l0, l1, l2, l3, l4, l5, l6, l7, l8, l9] [] h) ∧
  (∀ (l0 l1 l2 l3 l4 l5 l6 l7 l8 l9 : Option Value) (h : sx_H), sx_Ev S 36 10 [l0, l1, l2, l3, l4, l5, l6, l7, l8, l9] [] h = sx_Ev S 36 11 [l0, l1, l2, l3, l4, l5, l6, l7, l8, l9] [.int (sz (0))] h) ∧
  (∀ (l0 l1 l2 l3 l4 l5 l6 l7 l8 l9 : Option Value) (s0 : Int32) (h : sx_H), sx_Ev S 36 11 [l0, l1, l2, l3, l4, l5, l6, l7, l8, l9] [.int s0] h = some (.inl (some (.int s0)), h)) ∧
  (∀ (l0 l1 l2 l3 l4 l5 l6 l7 l8 l9 : Option Value) (h : sx_H), sx_Ev S 36 12 [l0, l1, l2, l3, l4, l5, l6, l7, l8, l9] [] h = sx_Ev S 36 13 [l0, l1, l2, l3, l4, l5, l6, l7, l8, l9] [.int (sz (0))] h) ∧
  (∀ (l0 l1 l2 l3 l4 l5 l6 l7 l8 l9 : Option Value) (s0 : Int32) (h : sx_H), sx_Ev S 36 13 [l0, l1, l2, l3, l4, l5, l6, l7, l8, l9] [.int s0] h = sx_Ev S 36 15 [l0, l1, l2, l3, some (.int s0), l5, l6, l7, l8, l9] [] h) ∧
  (∀ (l0 l1 l2 l3 l4 l5 l6 l7 l8 l9 : Option Value) (h : sx_H), sx_Ev S 36 15 [l0, l1, l2, l3, l4, l5, l6, l7, l8, l9] [] h = sx_Ev S 36 16 [l0, l1, l2, l3, l4, l5, l6, l7, l8, l9] [.int (sz (0))] h) ∧
  (∀ (l0 l1 l2 l3 l4 l5 l6 l7 l8 l9 : Option Value) (s0 : Int32) (h : sx_H), sx_Ev S 36 16 [l0, l1, l2, l3, l4, l5, l6, l7, l8, l9] [.int s0] h = sx_Ev S 36 18 [l0, l1, l2, l3, l4, some (.int s0), l6, l7, l8, l9] [] h) ∧
  (∀ (l1 l2 l3 l4 l5 l6 l7 l8 l9 : Option Value) (s0 : Int32) (x : Nat) (h : sx_H), sx_Ev S 36 20 [some (.ref x), l1, l2, l3, l4, l5, l6, l7, l8, l9] [.int s0] h = sx_Ev S 36 21 [some (.ref x), l1, l2, l3, l4, l5, l6, l7, l8, l9] [.ref x, .int s0] h) ∧
  (∀ (l0 l1 l2 l3 l4 l5 l6 l7 l8 l9 : Option Value) (s0 : Nat) (s1 : Int32) (h : sx_H), sx_Ev S 36 21 [l0, l1, l2, l3, l4, l5, l6, l7, l8, l9] [.ref s0, .int s1] h = (sx_fld h s0 0 3).bind fun v => sx_Ev S 36 24 [l0, l1, l2, l3, l4, l5, l6, l7, l8, l9] [v, .int s1] h) ∧
  (∀ (l0 l1 l2 l3 l4 l5 l6 l7 l8 l9 : Option Value) (s0 : Int32) (s1 : Int32) (h : sx_H), sx_Ev S 36 24 [l0, l1, l2, l3, l4, l5, l6, l7, l8, l9] [.int s0, .int s1] h = if s1 < s0 then sx_Ev S 36 27 [l0, l1, l2, l3, l4, l5, l6, l7, l8, l9] [] h else sx_Ev S 36 114 [l0, l1, l2, l3, l4, l5, l6, l7, l8, l9] [] h) ∧
  (∀ (l0 l1 l2 l3 l4 l5 l6 l7 l8 l9 : Option Value) (h : sx_H), sx_Ev S 36 27 [l0, l1, l2, l3, l4, l5, l6, l7, l8, l9] [] h = sx_Ev S 36 28 [l0, l1, l2, l3, l4, l5, l6, l7, l8, l9] [.int (sz (0))] h) ∧
  (∀ (l0 l1 l2 l3 l4 l5 l6 l7 l8 l9 : Option Value) (s0 : Int32) (h : sx_H), sx_Ev S 36 28 [l0, l1, l2, l3, l4, l5, l6, l7, l8, l9] [.int s0] h = sx_Ev S 36 30 [l0, l1, l2, l3, l4, l5, some (.int s0), l7, l8, l9] [] h) ∧
  (∀ (l1 l2 l3 l4 l5 l6 l7 l8 l9 : Option Value) (s0 : Int32) (x : Nat) (h : sx_H), sx_Ev S 36 32 [some (.ref x), l1, l2, l3, l4, l5, l6, l7, l8, l9] [.int s0] h = sx_Ev S 36 33 [some (.ref x), l1, l2, l3, l4, l5, l6, l7, l8, l9] [.ref x, .int s0] h) ∧
  (∀ (l0 l1 l2 l3 l4 l5 l6 l7 l8 l9 : Option Value) (s0 : Nat) (s1 : Int32) (h : sx_H), sx_Ev S 36 33 [l0, l1, l2, l3, l4, l5, l6, l7, l8, l9] [.ref s0, .int s1] h = (sx_fld h s0 0 2).bind fun v => sx_Ev S 36 36 [l0, l1, l2, l3, l4, l5, l6, l7, l8, l9] [v, .int s1] h) ∧
  (∀ (l0 l1 l2 l3 l4 l5 l6 l7 l8 l9 : Option Value) (s0 : Int32) (s1 : Int32) (h : sx_H), sx_Ev S 36 36 [l0, l1, l2, l3, l4, l5, l6, l7, l8, l9] [.int s0, .int s1] h = if s1 < s0 then sx_Ev S 36 39 [l0, l1, l2, l3, l4, l5, l6, l7, l8, l9] [] h else sx_Ev S 36 108 [l0, l1, l2, l3, l4, l5, l6, l7, l8, l9] [] h) ∧
  (∀ (l0 l1 l2 l3 l4 l5 l7 l8 l9 : Option Value) (x : Int32) (h : sx_H), sx_Ev S 36 39 [l0, l1, l2, l3, l4, l5, some (.int x), l7, l8, l9] [] h = sx_Ev S 36 41 [l0, l1, l2, l3, l4, l5, some (.int x), l7, l8, l9] [.int x] h) ∧
  (∀ (l0 l1 l2 l4 l5 l6 l7 l8 l9 : Option Value) (s0 : Int32) (x : Int32) (h : sx_H), sx_Ev S 36 41 [l0, l1, l2, some (.int x), l4, l5, l6, l7, l8, l9] [.int s0] h = sx_Ev S 36 42 [l0, l1, l2, some (.int x), l4, l5, l6, l7, l8, l9] [.int x, .int s0] h) ∧
  (∀ (l0 l1 l2 l3 l4 l6 l7 l8 l9 : Option Value) (s0 : Int32) (s1 : Int32) (x : Int32) (h : sx_H), sx_Ev S 36 42 [l0, l1, l2, l3, l4, some (.int x), l6, l7, l8, l9] [.int s0, .int s1] h = sx_Ev S 36 44 [l0, l1, l2, l3, l4, some (.int x), l6, l7, l8, l9] [.int x, .int s0, .int s1] h) ∧
  (∀ (l0 l1 l3 l4 l5 l6 l7 l8 l9 : Option Value) (s0 : Int32) (s1 : Int32) (s2 : Int32) (x : Int32) (h : sx_H), sx_Ev S 36 44 [l0, l1, some (.int x), l3, l4, l5, l6, l7, l8, l9] [.int s0, .int s1, .int s2] h = sx_Ev S 36 45 [l0, l1, some (.int x), l3, l4, l5, l6, l7, l8, l9] [.int x, .int s0, .int s1, .int s2] h) ∧
  (∀ (l0 l1 l2 l3 l4 l5 l6 l7 l8 l9 : Option Value) (s0 : Int32) (s1 : Int32) (s2 : Int32) (s3 : Int32) (h : sx_H), sx_Ev S 36 45 [l0, l1, l2, l3, l4, l5, l6, l7, l8, l9] [.int s0, .int s1, .int s2, .int s3] h = if s0 = 0 then none else sx_Ev S 36 46 [l0, l1, l2, l3, l4, l5, l6, l7, l8, l9] [.int (s1 / s0), .int s2, .int s3] h) ∧
  (∀ (l0 l1 l2 l3 l4 l5 l6 l7 l8 l9 : Option Value) (s0 : Int32) (s1 : Int32) (s2 : Int32) (h : sx_H), sx_Ev S 36 46 [l0, l1, l2, l3, l4, l5, l6, l7, l8, l9] [.int s0, .int s1, .int s2] h = sx_Ev S 36 47 [l0, l1, l2, l3, l4, l5, l6, l7, l8, l9] [.int (s1 * s0), .int s2] h) ∧
  (∀ (l0 l1 l2 l3 l4 l5 l6 l7 l8 l9 : Option Value) (s0 : Int32) (s1 : Int32) (h : sx_H), sx_Ev S 36 47 [l0, l1, l2, l3, l4, l5, l6, l7, l8, l9] [.int s0, .int s1] h = sx_Ev S 36 48 [l0, l1, l2, l3, l4, l5, l6, l7, l8, l9] [.int (s1 - s0)] h) ∧
  (∀ (l0 l2 l3 l4 l5 l6 l7 l8 l9 : Option Value) (s0 : Int32) (x : Int32) (h : sx_H), sx_Ev S 36 48 [l0, some (.int x), l2, l3, l4, l5, l6, l7, l8, l9] [.int s0] h = sx_Ev S 36 49 [l0, some (.int x), l2, l3, l4, l5, l6, l7, l8, l9] [.int x, .int s0] h) ∧
  (∀ (l0 l1 l2 l3 l4 l5 l6 l7 l8 l9 : Option Value) (s0 : Int32) (s1 : Int32) (h : sx_H), sx_Ev S 36 49 [l0, l1, l2, l3, l4, l5, l6, l7, l8, l9] [.int s0, .int s1] h = sx_back S 36 49 [l0, l1, l2, l3, l4, l5, l6, l7, l8, l9] [] (sx_Cl S 35 [.int s1, .int s0] h)) ∧
  (∀ (ls : sx_L) (st : List Value) (v : Value) (h : sx_H), sx_back S 36 49 ls st (some (.inl (some v), h)) = sx_Ev S 36 52 ls (v :: st) h) ∧
  (∀ (ls : sx_L) (st : List Value) (e : Nat) (h : sx_H), sx_back S 36 49 ls st (some (.inr e, h)) = some (.inr e, h)) ∧
  (∀ (l0 l1 l2 l3 l4 l5 l6 l7 l8 l9 : Option Value) (s0 : Int32) (h : sx_H), sx_Ev S 36 52 [l0, l1, l2, l3, l4, l5, l6, l7, l8, l9] [.int s0] h = sx_Ev S 36 54 [l0, l1, l2, l3, l4, l5, l6, some (.int s0), l8, l9] [] h) ∧
  (∀ (l1 l2 l3 l4 l5 l6 l7 l8 l9 : Option Value) (x : Nat) (h : sx_H), sx_Ev S 36 54 [some (.ref x), l1, l2, l3, l4, l5, l6, l7, l8, l9] [] h = sx_Ev S 36 55 [some (.ref x), l1, l2, l3, l4, l5, l6, l7, l8, l9] [.ref x] h) ∧
  (∀ (l1 l2 l3 l4 l5 l6 l7 l8 l9 : Option Value) (s0 : Nat) (x : Nat) (h : sx_H), sx_Ev S 36 55 [some (.ref x), l1, l2, l3, l4, l5, l6, l7, l8, l9] [.ref s0] h = sx_Ev S 36 56 [some (.ref x), l1, l2, l3, l4, l5, l6, l7, l8, l9] [.ref x, .ref s0] h) ∧
  (∀ (l0 l1 l2 l3 l4 l6 l7 l8 l9 : Option Value) (s0 : Nat) (s1 : Nat) (x : Int32) (h : sx_H), sx_Ev S 36 56 [l0, l1, l2, l3, l4, some (.int x), l6, l7, l8, l9] [.ref s0, .ref s1] h = sx_Ev S 36 58 [l0, l1, l2, l3, l4, some (.int x), l6, l7, l8, l9] [.int x, .ref s0, .ref s1] h) ∧
  (∀ (l0 l1 l3 l4 l5 l6 l7 l8 l9 : Option Value) (s0 : Int32) (s1 : Nat) (s2 : Nat) (x : Int32) (h : sx_H), sx_Ev S 36 58 [l0, l1, some (.int x), l3, l4, l5, l6, l7, l8, l9] [.int s0, .ref s1, .ref s2] h = sx_Ev S 36 59 [l0, l1, some (.int x), l3, l4, l5, l6, l7, l8, l9] [.int x, .int s0, .ref s1, .ref s2] h) ∧
  (∀ (l0 l1 l2 l3 l4 l5 l6 l7 l8 l9 : Option Value) (s0 : Int32) (s1 : Int32) (s2 : Nat) (s3 : Nat) (h : sx_H), sx_Ev S 36 59 [l0, l1, l2, l3, l4, l5, l6, l7, l8, l9] [.int s0, .int s1, .ref s2, .ref s3] h = if s0 = 0 then none else sx_Ev S 36 60 [l0, l1, l2, l3, l4, l5, l6, l7, l8, l9] [.int (s1 - s1 / s0 * s0), .ref s2, .ref s3] h) ∧
  (∀ (l0 l1 l2 l3 l4 l5 l6 l8 l9 : Option Value) (s0 : Int32) (s1 : Nat) (s2 : Nat) (x : Int32) (h : sx_H), sx_Ev S 36 60 [l0, l1, l2, l3, l4, l5, l6, some (.int x), l8, l9] [.int s0, .ref s1, .ref s2] h = sx_Ev S 36 62 [l0, l1, l2, l3, l4, l5, l6, some (.int x), l8, l9] [.int x, .int s0, .ref s1, .ref s2] h) ∧
  (∀ (l0 l1 l2 l3 l4 l5 l6 l7 l8 l9 : Option Value) (s0 : Int32) (s1 : Int32) (s2 : Nat) (s3 : Nat) (h : sx_H), sx_klass h s2 = some 0 → sx_Ev S 36 62 [l0, l1, l2, l3, l4, l5, l6, l7, l8, l9] [.int s0, .int s1, .ref s2, .ref s3] h = sx_back S 36 62 [l0, l1, l2, l3, l4, l5, l6, l7, l8, l9] [.ref s3] (sx_Cl S 26 [.ref s2, .int s1, .int s0] h)) ∧
  (∀ (ls : sx_L) (st : List Value) (v : Value) (h : sx_H), sx_back S 36 62 ls st (some (.inl (some v), h)) = sx_Ev S 36 65 ls (v :: st) h) ∧
  (∀ (ls : sx_L) (st : List Value) (e : Nat) (h : sx_H), sx_back S 36 62 ls st (some (.inr e, h)) = some (.inr e, h)) ∧
  (∀ (l0 l1 l2 l3 l4 l5 l6 l7 l8 l9 : Option Value) (s0 : Int32) (s1 : Nat) (h : sx_H), sx_klass h s1 = some 0 → sx_Ev S 36 65 [l0, l1, l2, l3, l4, l5, l6, l7, l8, l9] [.int s0, .ref s1] h = sx_back S 36 65 [l0, l1, l2, l3, l4, l5, l6, l7, l8, l9] [] (sx_Cl S 27 [.ref s1, .int s0] h)) ∧
  (∀ (ls : sx_L) (st : List Value) (v : Value) (h : sx_H), sx_back S 36 65 ls st (some (.inl (some v), h)) = sx_Ev S 36 68 ls (v :: st) h) ∧
  (∀ (ls : sx_L) (st : List Value) (e : Nat) (h : sx_H), sx_back S 36 65 ls st (some (.inr e, h)) = some (.inr e, h)) ∧
  (∀ (l0 l1 l2 l3 l4 l5 l6 l7 l8 l9 : Option Value) (s0 : Int32) (h : sx_H), sx_Ev S 36 68 [l0, l1, l2, l3, l4, l5, l6, l7, l8, l9] [.int s0] h = sx_Ev S 36 70 [l0, l1, l2, l3, l4, l5, l6, l7, some (.int s0), l9] [] h) ∧
  (∀ (l1 l2 l3 l4 l5 l6 l7 l8 l9 : Option Value) (x : Nat) (h : sx_H), sx_Ev S 36 70 [some (.ref x), l1, l2, l3, l4, l5, l6, l7, l8, l9] [] h = sx_Ev S 36 71 [some (.ref x), l1, l2, l3, l4, l5, l6, l7, l8, l9] [.ref x] h) ∧
  (∀ (l0 l1 l2 l3 l4 l6 l7 l8 l9 : Option Value) (s0 : Nat) (x : Int32) (h : sx_H), sx_Ev S 36 71 [l0, l1, l2, l3, l4, some (.int x), l6, l7, l8, l9] [.ref s0] h = sx_Ev S 36 73 [l0, l1, l2, l3, l4, some (.int x), l6, l7, l8, l9] [.int x, .ref s0] h) ∧
  (∀ (l0 l1 l2 l3 l4 l5 l7 l8 l9 : Option Value) (s0 : Int32) (s1 : Nat) (x : Int32) (h : sx_H), sx_Ev S 36 73 [l0, l1, l2, l3, l4, l5, some (.int x), l7, l8, l9] [.int s0, .ref s1] h = sx_Ev S 36 75 [l0, l1, l2, l3, l4, l5, some (.int x), l7, l8, l9] [.int x, .int s0, .ref s1] h) ∧
  (∀ (l0 l1 l2 l3 l4 l5 l6 l7 l8 l9 : Option Value) (s0 : Int32) (s1 : Int32) (s2 : Nat) (h : sx_H), sx_klass h s2 = some 0 → sx_Ev S 36 75 [l0, l1, l2, l3, l4, l5, l6, l7, l8, l9] [.int s0, .int s1, .ref s2] h = sx_back S 36 75 [l0, l1, l2, l3, l4, l5, l6, l7, l8, l9] [] (sx_Cl S 26 [.ref s2, .int s1, .int s0] h)) ∧
  (∀ (ls : sx_L) (st : List Value) (v : Value) (h : sx_H), sx_back S 36 75 ls st (some (.inl (some v), h)) = sx_Ev S 36 78 ls (v :: st) h) ∧
  (∀ (ls : sx_L) (st : List Value) (e : Nat) (h : sx_H), sx_back S 36 75 ls st (some (.inr e, h)) = some (.inr e, h)) ∧
  (∀ (l0 l1 l2 l3 l4 l5 l6 l7 l8 l9 : Option Value) (s0 : Int32) (h : sx_H), sx_Ev S 36 78 [l0, l1, l2, l3, l4, l5, l6, l7, l8, l9] [.int s0] h = sx_Ev S 36 80 [l0, l1, l2, l3, l4, l5, l6, l7, l8, some (.int s0)] [] h) ∧
  (∀ (l1 l2 l3 l4 l5 l6 l7 l8 l9 : Option Value) (x : Nat) (h : sx_H), sx_Ev S 36 80 [some (.ref x), l1, l2, l3, l4, l5, l6, l7, l8, l9] [] h = sx_Ev S 36 81 [some (.ref x), l1, l2, l3, l4, l5, l6, l7, l8, l9] [.ref x] h) ∧
  (∀ (l0 l1 l2 l3 l4 l5 l6 l7 l8 : Option Value) (s0 : Nat) (x : Int32) (h : sx_H), sx_Ev S 36 81 [l0, l1, l2, l3, l4, l5, l6, l7, l8, some (.int x)] [.ref s0] h = sx_Ev S 36 83 [l0, l1, l2, l3, l4, l5, l6, l7, l8, some (.int x)] [.int x, .ref s0] h) ∧
  (∀ (l0 l1 l2 l3 l4 l5 l6 l7 l8 l9 : Option Value) (s0 : Int32) (s1 : Nat) (h : sx_H), sx_klass h s1 = some 0 → sx_Ev S 36 83 [l0, l1, l2, l3, l4, l5, l6, l7, l8, l9] [.int s0, .ref s1] h = sx_back S 36 83 [l0, l1, l2, l3, l4, l5, l6, l7, l8, l9] [] (sx_Cl S 27 [.ref s1, .int s0] h)) ∧
  (∀ (ls : sx_L) (st : List Value) (v : Value) (h : sx_H), sx_back S 36 83 ls st (some (.inl (some v), h)) = sx_Ev S 36 86 ls (v :: st) h) ∧
  (∀ (ls : sx_L) (st : List Value) (e : Nat) (h : sx_H), sx_back S 36 83 ls st (some (.inr e, h)) = some (.inr e, h)) ∧
  (∀ (l0 l1 l2 l3 l4 l5 l6 l7 l9 : Option Value) (s0 : Int32) (x : Int32) (h : sx_H), sx_Ev S 36 86 [l0, l1, l2, l3, l4, l5, l6, l7, some (.int x), l9] [.int s0] h = sx_Ev S 36 88 [l0, l1, l2, l3, l4, l5, l6, l7, some (.int x), l9] [.int x, .int s0] h) ∧
  (∀ (l0 l1 l2 l3 l4 l5 l6 l7 l8 l9 : Option Value) (s0 : Int32) (s1 : Int32) (h : sx_H), sx_Ev S 36 88 [l0, l1, l2, l3, l4, l5, l6, l7, l8, l9] [.int s0, .int s1] h = if s1 = s0 then sx_Ev S 36 102 [l0, l1, l2, l3, l4, l5, l6, l7, l8, l9] [] h else sx_Ev S 36 91 [l0, l1, l2, l3, l4, l5, l6, l7, l8, l9] [] h) ∧
  (∀ (l1 l2 l3 l4 l5 l6 l7 l8 l9 : Option Value) (x : Nat) (h : sx_H), sx_Ev S 36 91 [some (.ref x), l1, l2, l3, l4, l5, l6, l7, l8, l9] [] h = sx_Ev S 36 92 [some (.ref x), l1, l2, l3, l4, l5, l6, l7, l8, l9] [.ref x] h) := ⟨fun _ _ _ _ _ _ _ _ _ _ _ => sx_e_nx rfl rfl,
  fun _ _ _ _ _ _ _ _ _ _ _ _ => sx_e_nx rfl rfl,
  fun _ _ _ _ _ _ _ _ _ _ _ _ _ => sx_e_ilt rfl (by decide) rfl,
  fun _ _ _ _ _ _ _ _ _ _ _ => sx_e_nx rfl rfl,
  fun _ _ _ _ _ _ _ _ _ _ _ _ => sx_e_nx rfl rfl,
  fun _ _ _ _ _ _ _ _ _ _ _ _ _ => sx_e_ige rfl (by decide) rfl,
  fun _ _ _ _ _ _ _ _ _ _ _ => sx_e_nx rfl rfl,
  fun _ _ _ _ _ _ _ _ _ _ _ _ => sx_e_ret rfl rfl rfl,
  fun _ _ _ _ _ _ _ _ _ _ _ => sx_e_nx rfl rfl,
  fun _ _ _ _ _ _ _ _ _ _ _ _ => sx_e_nx rfl rfl,
  fun _ _ _ _ _ _ _ _ _ _ _ => sx_e_nx rfl rfl,
  fun _ _ _ _ _ _ _ _ _ _ _ _ => sx_e_nx rfl rfl,
  fun _ _ _ _ _ _ _ _ _ _ _ _ => sx_e_nx rfl rfl,
  fun _ _ _ _ _ _ _ _ _ _ _ _ _ => sx_e_getf rfl rfl (by decide) rfl,
  fun _ _ _ _ _ _ _ _ _ _ _ _ _ => sx_e_ige rfl (by decide) rfl,
  fun _ _ _ _ _ _ _ _ _ _ _ => sx_e_nx rfl rfl,
  fun _ _ _ _ _ _ _ _ _ _ _ _ => sx_e_nx rfl rfl,
  fun _ _ _ _ _ _ _ _ _ _ _ _ => sx_e_nx rfl rfl,
  fun _ _ _ _ _ _ _ _ _ _ _ _ _ => sx_e_getf rfl rfl (by decide) rfl,
  fun _ _ _ _ _ _ _ _ _ _ _ _ _ => sx_e_ige rfl (by decide) rfl,
  fun _ _ _ _ _ _ _ _ _ _ _ => sx_e_nx rfl rfl,
  fun _ _ _ _ _ _ _ _ _ _ _ _ => sx_e_nx rfl rfl,
  fun _ _ _ _ _ _ _ _ _ _ _ _ _ => sx_e_nx rfl rfl,
  fun _ _ _ _ _ _ _ _ _ _ _ _ _ _ => sx_e_nx rfl rfl,
  fun _ _ _ _ _ _ _ _ _ _ _ _ _ _ _ => sx_e_div rfl rfl,
  fun _ _ _ _ _ _ _ _ _ _ _ _ _ _ => sx_e_nx rfl rfl,
  fun _ _ _ _ _ _ _ _ _ _ _ _ _ => sx_e_nx rfl rfl,
  fun _ _ _ _ _ _ _ _ _ _ _ _ => sx_e_nx rfl rfl,
  fun _ _ _ _ _ _ _ _ _ _ _ _ _ => sx_e_ca rfl rfl,
  fun _ _ _ _ => rfl,
  fun _ _ _ _ => rfl,
  fun _ _ _ _ _ _ _ _ _ _ _ _ => sx_e_nx rfl rfl,
  fun _ _ _ _ _ _ _ _ _ _ _ => sx_e_nx rfl rfl,
  fun _ _ _ _ _ _ _ _ _ _ _ _ => sx_e_nx rfl rfl,
  fun _ _ _ _ _ _ _ _ _ _ _ _ _ => sx_e_nx rfl rfl,
  fun _ _ _ _ _ _ _ _ _ _ _ _ _ _ => sx_e_nx rfl rfl,
  fun _ _ _ _ _ _ _ _ _ _ _ _ _ _ _ => sx_e_rem rfl rfl,
  fun _ _ _ _ _ _ _ _ _ _ _ _ _ _ => sx_e_nx rfl rfl,
  fun _ _ _ _ _ _ _ _ _ _ _ _ _ _ _ hv => sx_e_virt rfl rfl ⟨Nat.le_of_ble_eq_true rfl, Nat.le_of_ble_eq_true rfl, rfl⟩ rfl rfl rfl hv,
  fun _ _ _ _ => rfl,
  fun _ _ _ _ => rfl,
  fun _ _ _ _ _ _ _ _ _ _ _ _ _ hv => sx_e_virt rfl rfl ⟨Nat.le_of_ble_eq_true rfl, Nat.le_of_ble_eq_true rfl, rfl⟩ rfl rfl rfl hv,
  fun _ _ _ _ => rfl,
  fun _ _ _ _ => rfl,
  fun _ _ _ _ _ _ _ _ _ _ _ _ => sx_e_nx rfl rfl,
  fun _ _ _ _ _ _ _ _ _ _ _ => sx_e_nx rfl rfl,
  fun _ _ _ _ _ _ _ _ _ _ _ _ => sx_e_nx rfl rfl,
  fun _ _ _ _ _ _ _ _ _ _ _ _ _ => sx_e_nx rfl rfl,
  fun _ _ _ _ _ _ _ _ _ _ _ _ _ _ hv => sx_e_virt rfl rfl ⟨Nat.le_of_ble_eq_true rfl, Nat.le_of_ble_eq_true rfl, rfl⟩ rfl rfl rfl hv,
  fun _ _ _ _ => rfl,
  fun _ _ _ _ => rfl,
  fun _ _ _ _ _ _ _ _ _ _ _ _ => sx_e_nx rfl rfl,
  fun _ _ _ _ _ _ _ _ _ _ _ => sx_e_nx rfl rfl,
  fun _ _ _ _ _ _ _ _ _ _ _ _ => sx_e_nx rfl rfl,
  fun _ _ _ _ _ _ _ _ _ _ _ _ _ hv => sx_e_virt rfl rfl ⟨Nat.le_of_ble_eq_true rfl, Nat.le_of_ble_eq_true rfl, rfl⟩ rfl rfl rfl hv,
  fun _ _ _ _ => rfl,
  fun _ _ _ _ => rfl,
  fun _ _ _ _ _ _ _ _ _ _ _ _ => sx_e_nx rfl rfl,
  fun _ _ _ _ _ _ _ _ _ _ _ _ _ => sx_e_ieq rfl (by decide) rfl,
  fun _ _ _ _ _ _ _ _ _ _ _ => sx_e_nx rfl rfl⟩
theorem q36_1 (S : List Int32) : (∀ (l0 l1 l2 l3 l4 l5 l6 l7 l8 : Option Value) (s0 : Nat) (x : Int32) (h : sx_H), sx_Ev S 36 92 [l0, l1, l2, l3, l4, l5, l6, l7, l8, some (.int x)] [.ref s0] h = sx_Ev S 36 94 [l0, l1, l2, l3, l4, l5, l6, l7, l8, some (.int x)] [.int x, .ref s0] h) ∧
  (∀ (l0 l1 l2 l3 l4 l5 l6 l7 l9 : Option Value) (s0 : Int32) (s1 : Nat) (x : Int32) (h : sx_H), sx_Ev S 36 94 [l0, l1, l2, l3, l4, l5, l6, l7, some (.int x), l9] [.int s0, .ref s1] h = sx_Ev S 36 96 [l0, l1, l2, l3, l4, l5, l6, l7, some (.int x), l9] [.int x, .int s0, .ref s1] h) ∧
  (∀ (l0 l1 l2 l3 l4 l5 l6 l7 l8 l9 : Option Value) (s0 : Int32) (s1 : Int32) (s2 : Nat) (h : sx_H), sx_klass h s2 = some 0 → sx_Ev S 36 96 [l0, l1, l2, l3, l4, l5, l6, l7, l8, l9] [.int s0, .int s1, .ref s2] h = sx_back S 36 96 [l0, l1, l2, l3, l4, l5, l6, l7, l8, l9] [] (sx_Cl S 30 [.ref s2, .int s1, .int s0] h)) ∧
  (∀ (ls : sx_L) (st : List Value) (h : sx_H), sx_back S 36 96 ls st (some (.inl none, h)) = sx_Ev S 36 99 ls st h) ∧
  (∀ (ls : sx_L) (st : List Value) (e : Nat) (h : sx_H), sx_back S 36 96 ls st (some (.inr e, h)) = some (.inr e, h)) ∧
  (∀ (l0 l1 l2 l3 l5 l6 l7 l8 l9 : Option Value) (x : Int32) (h : sx_H), sx_Ev S 36 99 [l0, l1, l2, l3, some (.int x), l5, l6, l7, l8, l9] [] h = sx_Ev S 36 102 [l0, l1, l2, l3, some (.int (x + sz (1))), l5, l6, l7, l8, l9] [] h) ∧
  (∀ (l0 l1 l2 l3 l4 l5 l7 l8 l9 : Option Value) (x : Int32) (h : sx_H), sx_Ev S 36 102 [l0, l1, l2, l3, l4, l5, some (.int x), l7, l8, l9] [] h = sx_Ev S 36 105 [l0, l1, l2, l3, l4, l5, some (.int (x + sz (1))), l7, l8, l9] [] h) ∧
  (∀ (l0 l1 l2 l3 l4 l5 l6 l7 l8 l9 : Option Value) (h : sx_H), sx_Ev S 36 105 [l0, l1, l2, l3, l4, l5, l6, l7, l8, l9] [] h = sx_Ev S 36 30 [l0, l1, l2, l3, l4, l5, l6, l7, l8, l9] [] h) ∧
  (∀ (l0 l1 l2 l3 l4 l6 l7 l8 l9 : Option Value) (x : Int32) (h : sx_H), sx_Ev S 36 108 [l0, l1, l2, l3, l4, some (.int x), l6, l7, l8, l9] [] h = sx_Ev S 36 111 [l0, l1, l2, l3, l4, some (.int (x + sz (1))), l6, l7, l8, l9] [] h) ∧
  (∀ (l0 l1 l2 l3 l4 l5 l6 l7 l8 l9 : Option Value) (h : sx_H), sx_Ev S 36 111 [l0, l1, l2, l3, l4, l5, l6, l7, l8, l9] [] h = sx_Ev S 36 18 [l0, l1, l2, l3, l4, l5, l6, l7, l8, l9] [] h) ∧
  (∀ (l0 l1 l2 l3 l5 l6 l7 l8 l9 : Option Value) (x : Int32) (h : sx_H), sx_Ev S 36 114 [l0, l1, l2, l3, some (.int x), l5, l6, l7, l8, l9] [] h = sx_Ev S 36 116 [l0, l1, l2, l3, some (.int x), l5, l6, l7, l8, l9] [.int x] h) ∧
  (∀ (l0 l1 l2 l3 l4 l5 l6 l7 l8 l9 : Option Value) (s0 : Int32) (h : sx_H), sx_Ev S 36 116 [l0, l1, l2, l3, l4, l5, l6, l7, l8, l9] [.int s0] h = some (.inl (some (.int s0)), h)) := ⟨fun _ _ _ _ _ _ _ _ _ _ _ _ => sx_e_nx rfl rfl,
  fun _ _ _ _ _ _ _ _ _ _ _ _ _ => sx_e_nx rfl rfl,
  fun _ _ _ _ _ _ _ _ _ _ _ _ _ _ hv => sx_e_virt rfl rfl ⟨Nat.le_of_ble_eq_true rfl, Nat.le_of_ble_eq_true rfl, rfl⟩ rfl rfl rfl hv,
  fun _ _ _ => rfl,
  fun _ _ _ _ => rfl,
  fun _ _ _ _ _ _ _ _ _ _ _ => sx_e_nx rfl rfl,
  fun _ _ _ _ _ _ _ _ _ _ _ => sx_e_nx rfl rfl,
  fun _ _ _ _ _ _ _ _ _ _ _ => sx_e_goto rfl (by decide),
  fun _ _ _ _ _ _ _ _ _ _ _ => sx_e_nx rfl rfl,
  fun _ _ _ _ _ _ _ _ _ _ _ => sx_e_goto rfl (by decide),
  fun _ _ _ _ _ _ _ _ _ _ _ => sx_e_nx rfl rfl,
  fun _ _ _ _ _ _ _ _ _ _ _ _ => sx_e_ret rfl rfl rfl⟩
/-- 37: X3_holeOf (I)I -/
theorem c37_q (S : List Int32) : ∀ (a0 : Nat) (a1 : Int32) (h : sx_H), sx_Cl S 37 [.ref a0, .int a1] h = sx_Ev S 37 0 [some (.ref a0), some (.int a1)] [] h := fun _ _ _ => rfl
theorem q37 (S : List Int32) : (∀ (l1 : Option Value) (x : Nat) (h : sx_H), sx_Ev S 37 0 [some (.ref x), l1] [] h = sx_Ev S 37 1 [some (.ref x), l1] [.ref x] h) ∧
  (∀ (l0 : Option Value) (s0 : Nat) (x : Int32) (h : sx_H), sx_Ev S 37 1 [l0, some (.int x)] [.ref s0] h = sx_Ev S 37 2 [l0, some (.int x)] [.int x, .ref s0] h) ∧
  (∀ (l0 l1 : Option Value) (s0 : Int32) (s1 : Nat) (h : sx_H), sx_klass h s1 = some 2 → sx_Ev S 37 2 [l0, l1] [.int s0, .ref s1] h = sx_back S 37 2 [l0, l1] [] (sx_Cl S 28 [.ref s1, .int s0] h)) ∧
  (∀ (ls : sx_L) (st : List Value) (v : Value) (h : sx_H), sx_back S 37 2 ls st (some (.inl (some v), h)) = sx_Ev S 37 5 ls (v :: st) h) ∧
  (∀ (ls : sx_L) (st : List Value) (e : Nat) (h : sx_H), sx_back S 37 2 ls st (some (.inr e, h)) = some (.inr e, h)) ∧
  (∀ (l0 l1 : Option Value) (s0 : Int32) (h : sx_H), sx_Ev S 37 5 [l0, l1] [.int s0] h = if s0 = 0 then sx_Ev S 37 17 [l0, l1] [] h else sx_Ev S 37 8 [l0, l1] [] h) ∧
  (∀ (l1 : Option Value) (x : Nat) (h : sx_H), sx_Ev S 37 8 [some (.ref x), l1] [] h = sx_Ev S 37 9 [some (.ref x), l1] [.ref x] h) ∧
  (∀ (l0 l1 : Option Value) (s0 : Nat) (h : sx_H), sx_Ev S 37 9 [l0, l1] [.ref s0] h = (sx_fld h s0 2 2).bind fun v => sx_Ev S 37 12 [l0, l1] [v] h) ∧
  (∀ (l0 : Option Value) (s0 : Nat) (x : Int32) (h : sx_H), sx_Ev S 37 12 [l0, some (.int x)] [.ref s0] h = sx_Ev S 37 13 [l0, some (.int x)] [.int x, .ref s0] h) ∧
  (∀ (l0 l1 : Option Value) (s0 : Int32) (s1 : Nat) (h : sx_H), sx_Ev S 37 13 [l0, l1] [.int s0, .ref s1] h = (sx_rd S h s1 s0).bind fun v => sx_Ev S 37 14 [l0, l1] [.int v] h) ∧
  (∀ (l0 l1 : Option Value) (s0 : Int32) (h : sx_H), sx_Ev S 37 14 [l0, l1] [.int s0] h = sx_Ev S 37 18 [l0, l1] [.int s0] h) ∧
  (∀ (l0 l1 : Option Value) (h : sx_H), sx_Ev S 37 17 [l0, l1] [] h = sx_Ev S 37 18 [l0, l1] [.int (sz (0))] h) ∧
  (∀ (l0 l1 : Option Value) (s0 : Int32) (h : sx_H), sx_Ev S 37 18 [l0, l1] [.int s0] h = some (.inl (some (.int s0)), h)) := ⟨fun _ _ _ => sx_e_nx rfl rfl,
  fun _ _ _ _ => sx_e_nx rfl rfl,
  fun _ _ _ _ _ hv => sx_e_virt rfl rfl ⟨Nat.le_of_ble_eq_true rfl, Nat.le_of_ble_eq_true rfl, rfl⟩ rfl rfl rfl hv,
  fun _ _ _ _ => rfl,
  fun _ _ _ _ => rfl,
  fun _ _ _ _ => sx_e_eq rfl (by decide) rfl,
  fun _ _ _ => sx_e_nx rfl rfl,
  fun _ _ _ _ => sx_e_getf rfl rfl (by decide) rfl,
  fun _ _ _ _ => sx_e_nx rfl rfl,
  fun _ _ _ _ _ => sx_e_iald rfl rfl,
  fun _ _ _ _ => sx_e_goto rfl (by decide),
  fun _ _ _ => sx_e_nx rfl rfl,
  fun _ _ _ _ => sx_e_ret rfl rfl rfl⟩
/-- 38: X1_isPassedTooOften ()Z -/
theorem c38_q (S : List Int32) : ∀ (a0 : Nat) (h : sx_H), sx_Cl S 38 [.ref a0] h = sx_Ev S 38 0 [some (.ref a0), none, none] [] h := fun _ _ => rfl
theorem h38_2 (S : List Int32) : (∀ (l0 l2 : Option Value) (x : Int32) (h : sx_H), sx_Ev S 38 2 [l0, some (.int x), l2] [] h = sx_Ev S 38 3 [l0, some (.int x), l2] [.int x] h) := fun _ _ _ _ => sx_e_nx rfl rfl
theorem q38 (S : List Int32) : (∀ (l0 l1 l2 : Option Value) (h : sx_H), sx_Ev S 38 0 [l0, l1, l2] [] h = sx_Ev S 38 1 [l0, l1, l2] [.int (sz (0))] h) ∧
  (∀ (l0 l1 l2 : Option Value) (s0 : Int32) (h : sx_H), sx_Ev S 38 1 [l0, l1, l2] [.int s0] h = sx_Ev S 38 2 [l0, some (.int s0), l2] [] h) ∧
  (∀ (l1 l2 : Option Value) (s0 : Int32) (x : Nat) (h : sx_H), sx_Ev S 38 3 [some (.ref x), l1, l2] [.int s0] h = sx_Ev S 38 4 [some (.ref x), l1, l2] [.ref x, .int s0] h) ∧
  (∀ (l0 l1 l2 : Option Value) (s0 : Nat) (s1 : Int32) (h : sx_H), sx_klass h s0 = some 0 → sx_Ev S 38 4 [l0, l1, l2] [.ref s0, .int s1] h = sx_back S 38 4 [l0, l1, l2] [.int s1] (sx_Cl S 8 [.ref s0] h)) ∧
  (∀ (ls : sx_L) (st : List Value) (v : Value) (h : sx_H), sx_back S 38 4 ls st (some (.inl (some v), h)) = sx_Ev S 38 7 ls (v :: st) h) ∧
  (∀ (ls : sx_L) (st : List Value) (e : Nat) (h : sx_H), sx_back S 38 4 ls st (some (.inr e, h)) = some (.inr e, h)) ∧
  (∀ (l0 l1 l2 : Option Value) (s0 : Int32) (s1 : Int32) (h : sx_H), sx_Ev S 38 7 [l0, l1, l2] [.int s0, .int s1] h = if s1 < s0 then sx_Ev S 38 10 [l0, l1, l2] [] h else sx_Ev S 38 45 [l0, l1, l2] [] h) ∧
  (∀ (l1 l2 : Option Value) (x : Nat) (h : sx_H), sx_Ev S 38 10 [some (.ref x), l1, l2] [] h = sx_Ev S 38 11 [some (.ref x), l1, l2] [.ref x] h) ∧
  (∀ (l0 l2 : Option Value) (s0 : Nat) (x : Int32) (h : sx_H), sx_Ev S 38 11 [l0, some (.int x), l2] [.ref s0] h = sx_Ev S 38 12 [l0, some (.int x), l2] [.int x, .ref s0] h) ∧
  (∀ (l0 l1 l2 : Option Value) (s0 : Int32) (s1 : Nat) (h : sx_H), sx_klass h s1 = some 0 → sx_Ev S 38 12 [l0, l1, l2] [.int s0, .ref s1] h = sx_back S 38 12 [l0, l1, l2] [] (sx_Cl S 27 [.ref s1, .int s0] h)) ∧
  (∀ (ls : sx_L) (st : List Value) (v : Value) (h : sx_H), sx_back S 38 12 ls st (some (.inl (some v), h)) = sx_Ev S 38 15 ls (v :: st) h) ∧
  (∀ (ls : sx_L) (st : List Value) (e : Nat) (h : sx_H), sx_back S 38 12 ls st (some (.inr e, h)) = some (.inr e, h)) ∧
  (∀ (l0 l1 l2 : Option Value) (s0 : Int32) (h : sx_H), sx_Ev S 38 15 [l0, l1, l2] [.int s0] h = sx_Ev S 38 16 [l0, l1, some (.int s0)] [] h) ∧
  (∀ (l0 l1 : Option Value) (x : Int32) (h : sx_H), sx_Ev S 38 16 [l0, l1, some (.int x)] [] h = sx_Ev S 38 17 [l0, l1, some (.int x)] [.int x] h) ∧
  (∀ (l0 l1 l2 : Option Value) (s0 : Int32) (h : sx_H), sx_Ev S 38 17 [l0, l1, l2] [.int s0] h = sx_Ev S 38 18 [l0, l1, l2] [.int (sz (-1)), .int s0] h) ∧
  (∀ (l0 l1 l2 : Option Value) (s0 : Int32) (s1 : Int32) (h : sx_H), sx_Ev S 38 18 [l0, l1, l2] [.int s0, .int s1] h = if s1 = s0 then sx_Ev S 38 39 [l0, l1, l2] [] h else sx_Ev S 38 21 [l0, l1, l2] [] h) ∧
  (∀ (l1 l2 : Option Value) (x : Nat) (h : sx_H), sx_Ev S 38 21 [some (.ref x), l1, l2] [] h = sx_Ev S 38 22 [some (.ref x), l1, l2] [.ref x] h) ∧
  (∀ (l0 l2 : Option Value) (s0 : Nat) (x : Int32) (h : sx_H), sx_Ev S 38 22 [l0, some (.int x), l2] [.ref s0] h = sx_Ev S 38 23 [l0, some (.int x), l2] [.int x, .ref s0] h) ∧
  (∀ (l0 l1 l2 : Option Value) (s0 : Int32) (s1 : Nat) (h : sx_H), sx_klass h s1 = some 0 → sx_Ev S 38 23 [l0, l1, l2] [.int s0, .ref s1] h = sx_back S 38 23 [l0, l1, l2] [] (sx_Cl S 21 [.ref s1, .int s0] h)) ∧
  (∀ (ls : sx_L) (st : List Value) (v : Value) (h : sx_H), sx_back S 38 23 ls st (some (.inl (some v), h)) = sx_Ev S 38 26 ls (v :: st) h) ∧
  (∀ (ls : sx_L) (st : List Value) (e : Nat) (h : sx_H), sx_back S 38 23 ls st (some (.inr e, h)) = some (.inr e, h)) ∧
  (∀ (l1 l2 : Option Value) (s0 : Int32) (x : Nat) (h : sx_H), sx_Ev S 38 26 [some (.ref x), l1, l2] [.int s0] h = sx_Ev S 38 27 [some (.ref x), l1, l2] [.ref x, .int s0] h) ∧
  (∀ (l0 l1 l2 : Option Value) (s0 : Nat) (s1 : Int32) (h : sx_H), sx_Ev S 38 27 [l0, l1, l2] [.ref s0, .int s1] h = (sx_fld h s0 0 0).bind fun v => sx_Ev S 38 30 [l0, l1, l2] [v, .int s1] h) ∧
  (∀ (l0 l1 : Option Value) (s0 : Nat) (s1 : Int32) (x : Int32) (h : sx_H), sx_Ev S 38 30 [l0, l1, some (.int x)] [.ref s0, .int s1] h = sx_Ev S 38 31 [l0, l1, some (.int x)] [.int x, .ref s0, .int s1] h) ∧
  (∀ (l0 l1 l2 : Option Value) (s0 : Int32) (s1 : Nat) (s2 : Int32) (h : sx_H), sx_klass h s1 = some 2 → sx_Ev S 38 31 [l0, l1, l2] [.int s0, .ref s1, .int s2] h = sx_back S 38 31 [l0, l1, l2] [.int s2] (sx_Cl S 37 [.ref s1, .int s0] h)) ∧
  (∀ (ls : sx_L) (st : List Value) (v : Value) (h : sx_H), sx_back S 38 31 ls st (some (.inl (some v), h)) = sx_Ev S 38 34 ls (v :: st) h) ∧
  (∀ (ls : sx_L) (st : List Value) (e : Nat) (h : sx_H), sx_back S 38 31 ls st (some (.inr e, h)) = some (.inr e, h)) ∧
  (∀ (l0 l1 l2 : Option Value) (s0 : Int32) (s1 : Int32) (h : sx_H), sx_Ev S 38 34 [l0, l1, l2] [.int s0, .int s1] h = if s0 < s1 then sx_Ev S 38 37 [l0, l1, l2] [] h else sx_Ev S 38 39 [l0, l1, l2] [] h) ∧
  (∀ (l0 l1 l2 : Option Value) (h : sx_H), sx_Ev S 38 37 [l0, l1, l2] [] h = sx_Ev S 38 38 [l0, l1, l2] [.int (sz (1))] h) ∧
  (∀ (l0 l1 l2 : Option Value) (s0 : Int32) (h : sx_H), narrow .boolean (.int s0) = .int s0 → sx_Ev S 38 38 [l0, l1, l2] [.int s0] h = some (.inl (some (.int s0)), h)) ∧
  (∀ (l0 l2 : Option Value) (x : Int32) (h : sx_H), sx_Ev S 38 39 [l0, some (.int x), l2] [] h = sx_Ev S 38 42 [l0, some (.int (x + sz (1))), l2] [] h) ∧
  (∀ (l0 l1 l2 : Option Value) (h : sx_H), sx_Ev S 38 42 [l0, l1, l2] [] h = sx_Ev S 38 2 [l0, l1, l2] [] h) ∧
  (∀ (l0 l1 l2 : Option Value) (h : sx_H), sx_Ev S 38 45 [l0, l1, l2] [] h = sx_Ev S 38 46 [l0, l1, l2] [.int (sz (0))] h) ∧
  (∀ (l0 l1 l2 : Option Value) (s0 : Int32) (h : sx_H), narrow .boolean (.int s0) = .int s0 → sx_Ev S 38 46 [l0, l1, l2] [.int s0] h = some (.inl (some (.int s0)), h)) := ⟨fun _ _ _ _ => sx_e_nx rfl rfl,
  fun _ _ _ _ _ => sx_e_nx rfl rfl,
  fun _ _ _ _ _ => sx_e_nx rfl rfl,
  fun _ _ _ _ _ _ hv => sx_e_virt rfl rfl ⟨Nat.le_of_ble_eq_true rfl, Nat.le_of_ble_eq_true rfl, rfl⟩ rfl rfl rfl hv,
  fun _ _ _ _ => rfl,
  fun _ _ _ _ => rfl,
  fun _ _ _ _ _ _ => sx_e_ige rfl (by decide) rfl,
  fun _ _ _ _ => sx_e_nx rfl rfl,
  fun _ _ _ _ _ => sx_e_nx rfl rfl,
  fun _ _ _ _ _ _ hv => sx_e_virt rfl rfl ⟨Nat.le_of_ble_eq_true rfl, Nat.le_of_ble_eq_true rfl, rfl⟩ rfl rfl rfl hv,
  fun _ _ _ _ => rfl,
  fun _ _ _ _ => rfl,
  fun _ _ _ _ _ => sx_e_nx rfl rfl,
  fun _ _ _ _ => sx_e_nx rfl rfl,
  fun _ _ _ _ _ => sx_e_nx rfl rfl,
  fun _ _ _ _ _ _ => sx_e_ieq rfl (by decide) rfl,
  fun _ _ _ _ => sx_e_nx rfl rfl,
  fun _ _ _ _ _ => sx_e_nx rfl rfl,
  fun _ _ _ _ _ _ hv => sx_e_virt rfl rfl ⟨Nat.le_of_ble_eq_true rfl, Nat.le_of_ble_eq_true rfl, rfl⟩ rfl rfl rfl hv,
  fun _ _ _ _ => rfl,
  fun _ _ _ _ => rfl,
  fun _ _ _ _ _ => sx_e_nx rfl rfl,
  fun _ _ _ _ _ _ => sx_e_getf rfl rfl (by decide) rfl,
  fun _ _ _ _ _ _ => sx_e_nx rfl rfl,
  fun _ _ _ _ _ _ _ hv => sx_e_virt rfl rfl ⟨Nat.le_of_ble_eq_true rfl, Nat.le_of_ble_eq_true rfl, rfl⟩ rfl rfl rfl hv,
  fun _ _ _ _ => rfl,
  fun _ _ _ _ => rfl,
  fun _ _ _ _ _ _ => sx_e_ile rfl (by decide) rfl,
  fun _ _ _ _ => sx_e_nx rfl rfl,
  fun _ _ _ _ _ hv => sx_e_ret rfl rfl hv,
  fun _ _ _ _ => sx_e_nx rfl rfl,
  fun _ _ _ _ => sx_e_goto rfl (by decide),
  fun _ _ _ _ => sx_e_nx rfl rfl,
  fun _ _ _ _ _ hv => sx_e_ret rfl rfl hv⟩
/-- 39: X1_holdsTogether ()Z -/
theorem c39_q (S : List Int32) : ∀ (a0 : Nat) (h : sx_H), sx_Cl S 39 [.ref a0] h = sx_Ev S 39 0 [some (.ref a0)] [] h := fun _ _ => rfl
theorem q39 (S : List Int32) : (∀ (x : Nat) (h : sx_H), sx_Ev S 39 0 [some (.ref x)] [] h = sx_Ev S 39 1 [some (.ref x)] [.ref x] h) ∧
  (∀ (l0 : Option Value) (s0 : Nat) (h : sx_H), sx_Ev S 39 1 [l0] [.ref s0] h = (sx_fld h s0 0 9).bind fun v => sx_Ev S 39 4 [l0] [v] h) ∧
  (∀ (l0 : Option Value) (s0 : Int32) (h : sx_H), sx_Ev S 39 4 [l0] [.int s0] h = sx_Ev S 39 6 [l0] [.int (sz (100)), .int s0] h) ∧
  (∀ (l0 : Option Value) (s0 : Int32) (s1 : Int32) (h : sx_H), sx_Ev S 39 6 [l0] [.int s0, .int s1] h = if s1 = s0 then sx_Ev S 39 9 [l0] [] h else sx_Ev S 39 11 [l0] [] h) ∧
  (∀ (l0 : Option Value) (h : sx_H), sx_Ev S 39 9 [l0] [] h = sx_Ev S 39 10 [l0] [.int (sz (1))] h) ∧
  (∀ (l0 : Option Value) (s0 : Int32) (h : sx_H), narrow .boolean (.int s0) = .int s0 → sx_Ev S 39 10 [l0] [.int s0] h = some (.inl (some (.int s0)), h)) ∧
  (∀ (x : Nat) (h : sx_H), sx_Ev S 39 11 [some (.ref x)] [] h = sx_Ev S 39 12 [some (.ref x)] [.ref x] h) ∧
  (∀ (l0 : Option Value) (s0 : Nat) (h : sx_H), sx_Ev S 39 12 [l0] [.ref s0] h = (sx_fld h s0 0 9).bind fun v => sx_Ev S 39 15 [l0] [v] h) ∧
  (∀ (l0 : Option Value) (s0 : Int32) (h : sx_H), sx_Ev S 39 15 [l0] [.int s0] h = sx_Ev S 39 17 [l0] [.int (sz (119)), .int s0] h) ∧
  (∀ (l0 : Option Value) (s0 : Int32) (s1 : Int32) (h : sx_H), sx_Ev S 39 17 [l0] [.int s0, .int s1] h = if s1 = s0 then sx_Ev S 39 20 [l0] [] h else sx_Ev S 39 28 [l0] [] h) ∧
  (∀ (x : Nat) (h : sx_H), sx_Ev S 39 20 [some (.ref x)] [] h = sx_Ev S 39 21 [some (.ref x)] [.ref x] h) ∧
  (∀ (l0 : Option Value) (s0 : Nat) (h : sx_H), sx_Ev S 39 21 [l0] [.ref s0] h = sx_Ev S 39 22 [l0] [.int (sz (-1)), .ref s0] h) ∧
  (∀ (l0 : Option Value) (s0 : Int32) (s1 : Nat) (h : sx_H), sx_klass h s1 = some 0 → sx_Ev S 39 22 [l0] [.int s0, .ref s1] h = sx_back S 39 22 [l0] [] (sx_Cl S 31 [.ref s1, .int s0] h)) ∧
  (∀ (ls : sx_L) (st : List Value) (v : Value) (h : sx_H), sx_back S 39 22 ls st (some (.inl (some v), h)) = sx_Ev S 39 25 ls (v :: st) h) ∧
  (∀ (ls : sx_L) (st : List Value) (e : Nat) (h : sx_H), sx_back S 39 22 ls st (some (.inr e, h)) = some (.inr e, h)) ∧
  (∀ (l0 : Option Value) (s0 : Int32) (h : sx_H), sx_Ev S 39 25 [l0] [.int s0] h = if 0 < s0 then sx_Ev S 39 39 [l0] [] h else sx_Ev S 39 28 [l0] [] h) ∧
  (∀ (x : Nat) (h : sx_H), sx_Ev S 39 28 [some (.ref x)] [] h = sx_Ev S 39 29 [some (.ref x)] [.ref x] h) ∧
  (∀ (l0 : Option Value) (s0 : Nat) (h : sx_H), sx_klass h s0 = some 0 → sx_Ev S 39 29 [l0] [.ref s0] h = sx_back S 39 29 [l0] [] (sx_Cl S 38 [.ref s0] h)) ∧
  (∀ (ls : sx_L) (st : List Value) (v : Value) (h : sx_H), sx_back S 39 29 ls st (some (.inl (some v), h)) = sx_Ev S 39 32 ls (v :: st) h) ∧
  (∀ (ls : sx_L) (st : List Value) (e : Nat) (h : sx_H), sx_back S 39 29 ls st (some (.inr e, h)) = some (.inr e, h)) ∧
  (∀ (l0 : Option Value) (s0 : Int32) (h : sx_H), sx_Ev S 39 32 [l0] [.int s0] h = if s0 = 0 then sx_Ev S 39 35 [l0] [] h else sx_Ev S 39 39 [l0] [] h) ∧
  (∀ (l0 : Option Value) (h : sx_H), sx_Ev S 39 35 [l0] [] h = sx_Ev S 39 36 [l0] [.int (sz (1))] h) ∧
  (∀ (l0 : Option Value) (s0 : Int32) (h : sx_H), sx_Ev S 39 36 [l0] [.int s0] h = sx_Ev S 39 40 [l0] [.int s0] h) ∧
  (∀ (l0 : Option Value) (h : sx_H), sx_Ev S 39 39 [l0] [] h = sx_Ev S 39 40 [l0] [.int (sz (0))] h) ∧
  (∀ (l0 : Option Value) (s0 : Int32) (h : sx_H), narrow .boolean (.int s0) = .int s0 → sx_Ev S 39 40 [l0] [.int s0] h = some (.inl (some (.int s0)), h)) := ⟨fun _ _ => sx_e_nx rfl rfl,
  fun _ _ _ => sx_e_getf rfl rfl (by decide) rfl,
  fun _ _ _ => sx_e_bi rfl (by decide +kernel) rfl,
  fun _ _ _ _ => sx_e_ine rfl (by decide) rfl,
  fun _ _ => sx_e_nx rfl rfl,
  fun _ _ _ hv => sx_e_ret rfl rfl hv,
  fun _ _ => sx_e_nx rfl rfl,
  fun _ _ _ => sx_e_getf rfl rfl (by decide) rfl,
  fun _ _ _ => sx_e_bi rfl (by decide +kernel) rfl,
  fun _ _ _ _ => sx_e_ine rfl (by decide) rfl,
  fun _ _ => sx_e_nx rfl rfl,
  fun _ _ _ => sx_e_nx rfl rfl,
  fun _ _ _ _ hv => sx_e_virt rfl rfl ⟨Nat.le_of_ble_eq_true rfl, Nat.le_of_ble_eq_true rfl, rfl⟩ rfl rfl rfl hv,
  fun _ _ _ _ => rfl,
  fun _ _ _ _ => rfl,
  fun _ _ _ => sx_e_gt rfl (by decide) rfl,
  fun _ _ => sx_e_nx rfl rfl,
  fun _ _ _ hv => sx_e_virt rfl rfl ⟨Nat.le_of_ble_eq_true rfl, Nat.le_of_ble_eq_true rfl, rfl⟩ rfl rfl rfl hv,
  fun _ _ _ _ => rfl,
  fun _ _ _ _ => rfl,
  fun _ _ _ => sx_e_ne rfl (by decide) rfl,
  fun _ _ => sx_e_nx rfl rfl,
  fun _ _ _ => sx_e_goto rfl (by decide),
  fun _ _ => sx_e_nx rfl rfl,
  fun _ _ _ hv => sx_e_ret rfl rfl hv⟩
/-- 40: X2_init ()V -/
theorem c40_q (S : List Int32) : ∀ (a0 : Nat) (h : sx_H), sx_Cl S 40 [.ref a0] h = sx_Ev S 40 0 [some (.ref a0)] [] h := fun _ _ => rfl
theorem q40 (S : List Int32) : (∀ (x : Nat) (h : sx_H), sx_Ev S 40 0 [some (.ref x)] [] h = sx_Ev S 40 1 [some (.ref x)] [.ref x] h) ∧
  (∀ (l0 : Option Value) (s0 : Nat) (h : sx_H), sx_Ev S 40 1 [l0] [.ref s0] h = sx_Ev S 40 4 [l0] [] h) ∧
  (∀ (x : Nat) (h : sx_H), sx_Ev S 40 4 [some (.ref x)] [] h = sx_Ev S 40 5 [some (.ref x)] [.ref x] h) ∧
  (∀ (l0 : Option Value) (s0 : Nat) (h : sx_H), sx_Ev S 40 5 [l0] [.ref s0] h = sx_Ev S 40 7 [l0] [.int (sz (6)), .ref s0] h) ∧
  (∀ (l0 : Option Value) (s0 : Int32) (s1 : Nat) (h : sx_H), sx_Ev S 40 7 [l0] [.int s0, .ref s1] h = if s0 < 0 ∨ 65536 < s0.toNatClampNeg then none else sx_Ev S 40 9 [l0] [.ref (sx_new h), .ref s1] (sx_push h (some (.inl (List.replicate s0.toNatClampNeg 0))) s0.toNatClampNeg)) ∧
  (∀ (l0 : Option Value) (s0 : Nat) (s1 : Nat) (h : sx_H), sx_Ev S 40 9 [l0] [.ref s0, .ref s1] h = (sx_fst h s1 1 0 (.ref s0)).bind fun h => sx_Ev S 40 12 [l0] [] h) ∧
  (∀ (l0 : Option Value) (h : sx_H), sx_Ev S 40 12 [l0] [] h = some (.inl none, h)) := ⟨fun _ _ => sx_e_nx rfl rfl,
  fun _ _ _ => sx_e_nx rfl rfl,
  fun _ _ => sx_e_nx rfl rfl,
  fun _ _ _ => sx_e_bi rfl (by decide +kernel) rfl,
  fun _ _ _ _ => sx_e_newa rfl rfl,
  fun _ _ _ _ => sx_e_putf rfl rfl (by decide +kernel) ⟨rfl, rfl⟩ rfl,
  fun _ _ => sx_e_dn rfl rfl⟩
/-- 41: X2_findEmpties (LBeadslant$Cloth;)V -/
theorem c41_q (S : List Int32) : ∀ (a0 : Nat) (a1 : Nat) (h : sx_H), sx_Cl S 41 [.ref a0, .ref a1] h = sx_Ev S 41 0 [some (.ref a0), some (.ref a1), none] [] h := fun _ _ _ => rfl
theorem h41_7 (S : List Int32) : (∀ (l0 l1 : Option Value) (x : Int32) (h : sx_H), sx_Ev S 41 7 [l0, l1, some (.int x)] [] h = sx_Ev S 41 8 [l0, l1, some (.int x)] [.int x] h) := fun _ _ _ _ => sx_e_nx rfl rfl
theorem q41 (S : List Int32) : (∀ (l1 l2 : Option Value) (x : Nat) (h : sx_H), sx_Ev S 41 0 [some (.ref x), l1, l2] [] h = sx_Ev S 41 1 [some (.ref x), l1, l2] [.ref x] h) ∧
  (∀ (l0 l1 l2 : Option Value) (s0 : Nat) (h : sx_H), sx_Ev S 41 1 [l0, l1, l2] [.ref s0] h = sx_Ev S 41 2 [l0, l1, l2] [.int (sz (0)), .ref s0] h) ∧
  (∀ (l0 l1 l2 : Option Value) (s0 : Int32) (s1 : Nat) (h : sx_H), sx_Ev S 41 2 [l0, l1, l2] [.int s0, .ref s1] h = (sx_fst h s1 1 1 (.int s0)).bind fun h => sx_Ev S 41 5 [l0, l1, l2] [] h) ∧
  (∀ (l0 l1 l2 : Option Value) (h : sx_H), sx_Ev S 41 5 [l0, l1, l2] [] h = sx_Ev S 41 6 [l0, l1, l2] [.int (sz (0))] h) ∧
  (∀ (l0 l1 l2 : Option Value) (s0 : Int32) (h : sx_H), sx_Ev S 41 6 [l0, l1, l2] [.int s0] h = sx_Ev S 41 7 [l0, l1, some (.int s0)] [] h) ∧
  (∀ (l0 l2 : Option Value) (s0 : Int32) (x : Nat) (h : sx_H), sx_Ev S 41 8 [l0, some (.ref x), l2] [.int s0] h = sx_Ev S 41 9 [l0, some (.ref x), l2] [.ref x, .int s0] h) ∧
  (∀ (l0 l1 l2 : Option Value) (s0 : Nat) (s1 : Int32) (h : sx_H), sx_klass h s0 = some 0 → sx_Ev S 41 9 [l0, l1, l2] [.ref s0, .int s1] h = sx_back S 41 9 [l0, l1, l2] [.int s1] (sx_Cl S 8 [.ref s0] h)) ∧
  (∀ (ls : sx_L) (st : List Value) (v : Value) (h : sx_H), sx_back S 41 9 ls st (some (.inl (some v), h)) = sx_Ev S 41 12 ls (v :: st) h) ∧
  (∀ (ls : sx_L) (st : List Value) (e : Nat) (h : sx_H), sx_back S 41 9 ls st (some (.inr e, h)) = some (.inr e, h)) ∧
  (∀ (l0 l1 l2 : Option Value) (s0 : Int32) (s1 : Int32) (h : sx_H), sx_Ev S 41 12 [l0, l1, l2] [.int s0, .int s1] h = if s1 < s0 then sx_Ev S 41 15 [l0, l1, l2] [] h else sx_Ev S 41 59 [l0, l1, l2] [] h) ∧
  (∀ (l0 l2 : Option Value) (x : Nat) (h : sx_H), sx_Ev S 41 15 [l0, some (.ref x), l2] [] h = sx_Ev S 41 16 [l0, some (.ref x), l2] [.ref x] h) ∧
  (∀ (l0 l1 : Option Value) (s0 : Nat) (x : Int32) (h : sx_H), sx_Ev S 41 16 [l0, l1, some (.int x)] [.ref s0] h = sx_Ev S 41 17 [l0, l1, some (.int x)] [.int x, .ref s0] h) ∧
  (∀ (l0 l1 l2 : Option Value) (s0 : Int32) (s1 : Nat) (h : sx_H), sx_klass h s1 = some 0 → sx_Ev S 41 17 [l0, l1, l2] [.int s0, .ref s1] h = sx_back S 41 17 [l0, l1, l2] [] (sx_Cl S 27 [.ref s1, .int s0] h)) ∧
  (∀ (ls : sx_L) (st : List Value) (v : Value) (h : sx_H), sx_back S 41 17 ls st (some (.inl (some v), h)) = sx_Ev S 41 20 ls (v :: st) h) ∧
  (∀ (ls : sx_L) (st : List Value) (e : Nat) (h : sx_H), sx_back S 41 17 ls st (some (.inr e, h)) = some (.inr e, h)) ∧
  (∀ (l0 l1 l2 : Option Value) (s0 : Int32) (h : sx_H), sx_Ev S 41 20 [l0, l1, l2] [.int s0] h = sx_Ev S 41 21 [l0, l1, l2] [.int (sz (-1)), .int s0] h) ∧
  (∀ (l0 l1 l2 : Option Value) (s0 : Int32) (s1 : Int32) (h : sx_H), sx_Ev S 41 21 [l0, l1, l2] [.int s0, .int s1] h = if s1 = s0 then sx_Ev S 41 24 [l0, l1, l2] [] h else sx_Ev S 41 53 [l0, l1, l2] [] h) ∧
  (∀ (l1 l2 : Option Value) (x : Nat) (h : sx_H), sx_Ev S 41 24 [some (.ref x), l1, l2] [] h = sx_Ev S 41 25 [some (.ref x), l1, l2] [.ref x] h) ∧
  (∀ (l0 l1 l2 : Option Value) (s0 : Nat) (h : sx_H), sx_Ev S 41 25 [l0, l1, l2] [.ref s0] h = (sx_fld h s0 1 1).bind fun v => sx_Ev S 41 28 [l0, l1, l2] [v] h) ∧
  (∀ (l0 l1 l2 : Option Value) (s0 : Int32) (h : sx_H), sx_Ev S 41 28 [l0, l1, l2] [.int s0] h = sx_Ev S 41 30 [l0, l1, l2] [.int (sz (6)), .int s0] h) ∧
  (∀ (l0 l1 l2 : Option Value) (s0 : Int32) (s1 : Int32) (h : sx_H), sx_Ev S 41 30 [l0, l1, l2] [.int s0, .int s1] h = if s1 < s0 then sx_Ev S 41 33 [l0, l1, l2] [] h else sx_Ev S 41 53 [l0, l1, l2] [] h) ∧
  (∀ (l1 l2 : Option Value) (x : Nat) (h : sx_H), sx_Ev S 41 33 [some (.ref x), l1, l2] [] h = sx_Ev S 41 34 [some (.ref x), l1, l2] [.ref x] h) ∧
  (∀ (l0 l1 l2 : Option Value) (s0 : Nat) (h : sx_H), sx_Ev S 41 34 [l0, l1, l2] [.ref s0] h = (sx_fld h s0 1 0).bind fun v => sx_Ev S 41 37 [l0, l1, l2] [v] h) ∧
  (∀ (l1 l2 : Option Value) (s0 : Nat) (x : Nat) (h : sx_H), sx_Ev S 41 37 [some (.ref x), l1, l2] [.ref s0] h = sx_Ev S 41 38 [some (.ref x), l1, l2] [.ref x, .ref s0] h) ∧
  (∀ (l0 l1 l2 : Option Value) (s0 : Nat) (s1 : Nat) (h : sx_H), sx_Ev S 41 38 [l0, l1, l2] [.ref s0, .ref s1] h = (sx_fld h s0 1 1).bind fun v => sx_Ev S 41 41 [l0, l1, l2] [v, .ref s1] h) ∧
  (∀ (l0 l1 : Option Value) (s0 : Int32) (s1 : Nat) (x : Int32) (h : sx_H), sx_Ev S 41 41 [l0, l1, some (.int x)] [.int s0, .ref s1] h = sx_Ev S 41 42 [l0, l1, some (.int x)] [.int x, .int s0, .ref s1] h) ∧
  (∀ (l0 l1 l2 : Option Value) (s0 : Int32) (s1 : Int32) (s2 : Nat) (h : sx_H), sx_Ev S 41 42 [l0, l1, l2] [.int s0, .int s1, .ref s2] h = (sx_wr h s2 s1 s0).bind fun h => sx_Ev S 41 43 [l0, l1, l2] [] h) ∧
  (∀ (l1 l2 : Option Value) (x : Nat) (h : sx_H), sx_Ev S 41 43 [some (.ref x), l1, l2] [] h = sx_Ev S 41 44 [some (.ref x), l1, l2] [.ref x] h) ∧
  (∀ (l0 l1 l2 : Option Value) (s0 : Nat) (h : sx_H), sx_Ev S 41 44 [l0, l1, l2] [.ref s0] h = sx_Ev S 41 45 [l0, l1, l2] [.ref s0, .ref s0] h) ∧
  (∀ (l0 l1 l2 : Option Value) (s0 : Nat) (s1 : Nat) (h : sx_H), sx_Ev S 41 45 [l0, l1, l2] [.ref s0, .ref s1] h = (sx_fld h s0 1 1).bind fun v => sx_Ev S 41 48 [l0, l1, l2] [v, .ref s1] h) ∧
  (∀ (l0 l1 l2 : Option Value) (s0 : Int32) (s1 : Nat) (h : sx_H), sx_Ev S 41 48 [l0, l1, l2] [.int s0, .ref s1] h = sx_Ev S 41 49 [l0, l1, l2] [.int (sz (1)), .int s0, .ref s1] h) ∧
  (∀ (l0 l1 l2 : Option Value) (s0 : Int32) (s1 : Int32) (s2 : Nat) (h : sx_H), sx_Ev S 41 49 [l0, l1, l2] [.int s0, .int s1, .ref s2] h = sx_Ev S 41 50 [l0, l1, l2] [.int (s1 + s0), .ref s2] h) ∧
  (∀ (l0 l1 l2 : Option Value) (s0 : Int32) (s1 : Nat) (h : sx_H), sx_Ev S 41 50 [l0, l1, l2] [.int s0, .ref s1] h = (sx_fst h s1 1 1 (.int s0)).bind fun h => sx_Ev S 41 53 [l0, l1, l2] [] h) ∧
  (∀ (l0 l1 : Option Value) (x : Int32) (h : sx_H), sx_Ev S 41 53 [l0, l1, some (.int x)] [] h = sx_Ev S 41 56 [l0, l1, some (.int (x + sz (1)))] [] h) ∧
  (∀ (l0 l1 l2 : Option Value) (h : sx_H), sx_Ev S 41 56 [l0, l1, l2] [] h = sx_Ev S 41 7 [l0, l1, l2] [] h) ∧
  (∀ (l0 l1 l2 : Option Value) (h : sx_H), sx_Ev S 41 59 [l0, l1, l2] [] h = some (.inl none, h)) := ⟨fun _ _ _ _ => sx_e_nx rfl rfl,
  fun _ _ _ _ _ => sx_e_nx rfl rfl,
  fun _ _ _ _ _ _ => sx_e_putf rfl rfl (by decide +kernel) ⟨rfl, rfl⟩ rfl,
  fun _ _ _ _ => sx_e_nx rfl rfl,
  fun _ _ _ _ _ => sx_e_nx rfl rfl,
  fun _ _ _ _ _ => sx_e_nx rfl rfl,
  fun _ _ _ _ _ _ hv => sx_e_virt rfl rfl ⟨Nat.le_of_ble_eq_true rfl, Nat.le_of_ble_eq_true rfl, rfl⟩ rfl rfl rfl hv,
  fun _ _ _ _ => rfl,
  fun _ _ _ _ => rfl,
  fun _ _ _ _ _ _ => sx_e_ige rfl (by decide) rfl,
  fun _ _ _ _ => sx_e_nx rfl rfl,
  fun _ _ _ _ _ => sx_e_nx rfl rfl,
  fun _ _ _ _ _ _ hv => sx_e_virt rfl rfl ⟨Nat.le_of_ble_eq_true rfl, Nat.le_of_ble_eq_true rfl, rfl⟩ rfl rfl rfl hv,
  fun _ _ _ _ => rfl,
  fun _ _ _ _ => rfl,
  fun _ _ _ _ _ => sx_e_nx rfl rfl,
  fun _ _ _ _ _ _ => sx_e_ine rfl (by decide) rfl,
  fun _ _ _ _ => sx_e_nx rfl rfl,
  fun _ _ _ _ _ => sx_e_getf rfl rfl (by decide) rfl,
  fun _ _ _ _ _ => sx_e_bi rfl (by decide +kernel) rfl,
  fun _ _ _ _ _ _ => sx_e_ige rfl (by decide) rfl,
  fun _ _ _ _ => sx_e_nx rfl rfl,
  fun _ _ _ _ _ => sx_e_getf rfl rfl (by decide) rfl,
  fun _ _ _ _ _ => sx_e_nx rfl rfl,
  fun _ _ _ _ _ _ => sx_e_getf rfl rfl (by decide) rfl,
  fun _ _ _ _ _ _ => sx_e_nx rfl rfl,
  fun _ _ _ _ _ _ _ => sx_e_iast rfl rfl,
  fun _ _ _ _ => sx_e_nx rfl rfl,
  fun _ _ _ _ _ => sx_e_nx rfl rfl,
  fun _ _ _ _ _ _ => sx_e_getf rfl rfl (by decide) rfl,
  fun _ _ _ _ _ _ => sx_e_nx rfl rfl,
  fun _ _ _ _ _ _ _ => sx_e_nx rfl rfl,
  fun _ _ _ _ _ _ => sx_e_putf rfl rfl (by decide +kernel) ⟨rfl, rfl⟩ rfl,
  fun _ _ _ _ => sx_e_nx rfl rfl,
  fun _ _ _ _ => sx_e_goto rfl (by decide),
  fun _ _ _ _ => sx_e_dn rfl rfl⟩
/-- 42: X5_isThree (LBeadslant$Cloth;II)Z -/
theorem c42_q (S : List Int32) : ∀ (a0 : Nat) (a1 : Int32) (a2 : Int32) (h : sx_H), sx_Cl S 42 [.ref a0, .int a1, .int a2] h = sx_Ev S 42 0 [some (.ref a0), some (.int a1), some (.int a2), none] [] h := fun _ _ _ _ => rfl
theorem q42 (S : List Int32) : (∀ (l1 l2 l3 : Option Value) (x : Nat) (h : sx_H), sx_Ev S 42 0 [some (.ref x), l1, l2, l3] [] h = sx_Ev S 42 1 [some (.ref x), l1, l2, l3] [.ref x] h) ∧
  (∀ (l0 l2 l3 : Option Value) (s0 : Nat) (x : Int32) (h : sx_H), sx_Ev S 42 1 [l0, some (.int x), l2, l3] [.ref s0] h = sx_Ev S 42 2 [l0, some (.int x), l2, l3] [.int x, .ref s0] h) ∧
  (∀ (l0 l1 l3 : Option Value) (s0 : Int32) (s1 : Nat) (x : Int32) (h : sx_H), sx_Ev S 42 2 [l0, l1, some (.int x), l3] [.int s0, .ref s1] h = sx_Ev S 42 3 [l0, l1, some (.int x), l3] [.int x, .int s0, .ref s1] h) ∧
  (∀ (l0 l1 l2 l3 : Option Value) (s0 : Int32) (s1 : Int32) (s2 : Nat) (h : sx_H), sx_klass h s2 = some 0 → sx_Ev S 42 3 [l0, l1, l2, l3] [.int s0, .int s1, .ref s2] h = sx_back S 42 3 [l0, l1, l2, l3] [] (sx_Cl S 0 [.ref s2, .int s1, .int s0] h)) ∧
  (∀ (ls : sx_L) (st : List Value) (v : Value) (h : sx_H), sx_back S 42 3 ls st (some (.inl (some v), h)) = sx_Ev S 42 6 ls (v :: st) h) ∧
  (∀ (ls : sx_L) (st : List Value) (e : Nat) (h : sx_H), sx_back S 42 3 ls st (some (.inr e, h)) = some (.inr e, h)) ∧
  (∀ (l0 l1 l2 l3 : Option Value) (s0 : Int32) (h : sx_H), sx_Ev S 42 6 [l0, l1, l2, l3] [.int s0] h = sx_Ev S 42 7 [l0, l1, l2, some (.int s0)] [] h) ∧
  (∀ (l0 l1 l2 : Option Value) (x : Int32) (h : sx_H), sx_Ev S 42 7 [l0, l1, l2, some (.int x)] [] h = sx_Ev S 42 8 [l0, l1, l2, some (.int x)] [.int x] h) ∧
  (∀ (l0 l1 l2 l3 : Option Value) (s0 : Int32) (h : sx_H), sx_Ev S 42 8 [l0, l1, l2, l3] [.int s0] h = sx_Ev S 42 9 [l0, l1, l2, l3] [.int (sz (-1)), .int s0] h) ∧
  (∀ (l0 l1 l2 l3 : Option Value) (s0 : Int32) (s1 : Int32) (h : sx_H), sx_Ev S 42 9 [l0, l1, l2, l3] [.int s0, .int s1] h = if s1 = s0 then sx_Ev S 42 40 [l0, l1, l2, l3] [] h else sx_Ev S 42 12 [l0, l1, l2, l3] [] h) ∧
  (∀ (l0 l1 l2 : Option Value) (x : Int32) (h : sx_H), sx_Ev S 42 12 [l0, l1, l2, some (.int x)] [] h = sx_Ev S 42 13 [l0, l1, l2, some (.int x)] [.int x] h) ∧
  (∀ (l1 l2 l3 : Option Value) (s0 : Int32) (x : Nat) (h : sx_H), sx_Ev S 42 13 [some (.ref x), l1, l2, l3] [.int s0] h = sx_Ev S 42 14 [some (.ref x), l1, l2, l3] [.ref x, .int s0] h) ∧
  (∀ (l0 l2 l3 : Option Value) (s0 : Nat) (s1 : Int32) (x : Int32) (h : sx_H), sx_Ev S 42 14 [l0, some (.int x), l2, l3] [.ref s0, .int s1] h = sx_Ev S 42 15 [l0, some (.int x), l2, l3] [.int x, .ref s0, .int s1] h) ∧
  (∀ (l0 l1 l3 : Option Value) (s0 : Int32) (s1 : Nat) (s2 : Int32) (x : Int32) (h : sx_H), sx_Ev S 42 15 [l0, l1, some (.int x), l3] [.int s0, .ref s1, .int s2] h = sx_Ev S 42 16 [l0, l1, some (.int x), l3] [.int x, .int s0, .ref s1, .int s2] h) ∧
  (∀ (l0 l1 l2 l3 : Option Value) (s0 : Int32) (s1 : Int32) (s2 : Nat) (s3 : Int32) (h : sx_H), sx_Ev S 42 16 [l0, l1, l2, l3] [.int s0, .int s1, .ref s2, .int s3] h = sx_Ev S 42 17 [l0, l1, l2, l3] [.int (sz (1)), .int s0, .int s1, .ref s2, .int s3] h) ∧
  (∀ (l0 l1 l2 l3 : Option Value) (s0 : Int32) (s1 : Int32) (s2 : Int32) (s3 : Nat) (s4 : Int32) (h : sx_H), sx_Ev S 42 17 [l0, l1, l2, l3] [.int s0, .int s1, .int s2, .ref s3, .int s4] h = sx_Ev S 42 18 [l0, l1, l2, l3] [.int (s1 + s0), .int s2, .ref s3, .int s4] h) ∧
  (∀ (l0 l1 l2 l3 : Option Value) (s0 : Int32) (s1 : Int32) (s2 : Nat) (s3 : Int32) (h : sx_H), sx_klass h s2 = some 0 → sx_Ev S 42 18 [l0, l1, l2, l3] [.int s0, .int s1, .ref s2, .int s3] h = sx_back S 42 18 [l0, l1, l2, l3] [.int s3] (sx_Cl S 0 [.ref s2, .int s1, .int s0] h)) ∧
  (∀ (ls : sx_L) (st : List Value) (v : Value) (h : sx_H), sx_back S 42 18 ls st (some (.inl (some v), h)) = sx_Ev S 42 21 ls (v :: st) h) ∧
  (∀ (ls : sx_L) (st : List Value) (e : Nat) (h : sx_H), sx_back S 42 18 ls st (some (.inr e, h)) = some (.inr e, h)) ∧
  (∀ (l0 l1 l2 l3 : Option Value) (s0 : Int32) (s1 : Int32) (h : sx_H), sx_Ev S 42 21 [l0, l1, l2, l3] [.int s0, .int s1] h = if s1 = s0 then sx_Ev S 42 24 [l0, l1, l2, l3] [] h else sx_Ev S 42 40 [l0, l1, l2, l3] [] h) ∧
  (∀ (l0 l1 l2 : Option Value) (x : Int32) (h : sx_H), sx_Ev S 42 24 [l0, l1, l2, some (.int x)] [] h = sx_Ev S 42 25 [l0, l1, l2, some (.int x)] [.int x] h) ∧
  (∀ (l1 l2 l3 : Option Value) (s0 : Int32) (x : Nat) (h : sx_H), sx_Ev S 42 25 [some (.ref x), l1, l2, l3] [.int s0] h = sx_Ev S 42 26 [some (.ref x), l1, l2, l3] [.ref x, .int s0] h) ∧
  (∀ (l0 l2 l3 : Option Value) (s0 : Nat) (s1 : Int32) (x : Int32) (h : sx_H), sx_Ev S 42 26 [l0, some (.int x), l2, l3] [.ref s0, .int s1] h = sx_Ev S 42 27 [l0, some (.int x), l2, l3] [.int x, .ref s0, .int s1] h) ∧
  (∀ (l0 l1 l3 : Option Value) (s0 : Int32) (s1 : Nat) (s2 : Int32) (x : Int32) (h : sx_H), sx_Ev S 42 27 [l0, l1, some (.int x), l3] [.int s0, .ref s1, .int s2] h = sx_Ev S 42 28 [l0, l1, some (.int x), l3] [.int x, .int s0, .ref s1, .int s2] h) ∧
  (∀ (l0 l1 l2 l3 : Option Value) (s0 : Int32) (s1 : Int32) (s2 : Nat) (s3 : Int32) (h : sx_H), sx_Ev S 42 28 [l0, l1, l2, l3] [.int s0, .int s1, .ref s2, .int s3] h = sx_Ev S 42 29 [l0, l1, l2, l3] [.int (sz (2)), .int s0, .int s1, .ref s2, .int s3] h) ∧
  (∀ (l0 l1 l2 l3 : Option Value) (s0 : Int32) (s1 : Int32) (s2 : Int32) (s3 : Nat) (s4 : Int32) (h : sx_H), sx_Ev S 42 29 [l0, l1, l2, l3] [.int s0, .int s1, .int s2, .ref s3, .int s4] h = sx_Ev S 42 30 [l0, l1, l2, l3] [.int (s1 + s0), .int s2, .ref s3, .int s4] h) ∧
  (∀ (l0 l1 l2 l3 : Option Value) (s0 : Int32) (s1 : Int32) (s2 : Nat) (s3 : Int32) (h : sx_H), sx_klass h s2 = some 0 → sx_Ev S 42 30 [l0, l1, l2, l3] [.int s0, .int s1, .ref s2, .int s3] h = sx_back S 42 30 [l0, l1, l2, l3] [.int s3] (sx_Cl S 0 [.ref s2, .int s1, .int s0] h)) ∧
  (∀ (ls : sx_L) (st : List Value) (v : Value) (h : sx_H), sx_back S 42 30 ls st (some (.inl (some v), h)) = sx_Ev S 42 33 ls (v :: st) h) ∧
  (∀ (ls : sx_L) (st : List Value) (e : Nat) (h : sx_H), sx_back S 42 30 ls st (some (.inr e, h)) = some (.inr e, h)) ∧
  (∀ (l0 l1 l2 l3 : Option Value) (s0 : Int32) (s1 : Int32) (h : sx_H), sx_Ev S 42 33 [l0, l1, l2, l3] [.int s0, .int s1] h = if s1 = s0 then sx_Ev S 42 36 [l0, l1, l2, l3] [] h else sx_Ev S 42 40 [l0, l1, l2, l3] [] h) ∧
  (∀ (l0 l1 l2 l3 : Option Value) (h : sx_H), sx_Ev S 42 36 [l0, l1, l2, l3] [] h = sx_Ev S 42 37 [l0, l1, l2, l3] [.int (sz (1))] h) ∧
  (∀ (l0 l1 l2 l3 : Option Value) (s0 : Int32) (h : sx_H), sx_Ev S 42 37 [l0, l1, l2, l3] [.int s0] h = sx_Ev S 42 41 [l0, l1, l2, l3] [.int s0] h) ∧
  (∀ (l0 l1 l2 l3 : Option Value) (h : sx_H), sx_Ev S 42 40 [l0, l1, l2, l3] [] h = sx_Ev S 42 41 [l0, l1, l2, l3] [.int (sz (0))] h) ∧
  (∀ (l0 l1 l2 l3 : Option Value) (s0 : Int32) (h : sx_H), narrow .boolean (.int s0) = .int s0 → sx_Ev S 42 41 [l0, l1, l2, l3] [.int s0] h = some (.inl (some (.int s0)), h)) := ⟨fun _ _ _ _ _ => sx_e_nx rfl rfl,
  fun _ _ _ _ _ _ => sx_e_nx rfl rfl,
  fun _ _ _ _ _ _ _ => sx_e_nx rfl rfl,
  fun _ _ _ _ _ _ _ _ hv => sx_e_virt rfl rfl ⟨Nat.le_of_ble_eq_true rfl, Nat.le_of_ble_eq_true rfl, rfl⟩ rfl rfl rfl hv,
  fun _ _ _ _ => rfl,
  fun _ _ _ _ => rfl,
  fun _ _ _ _ _ _ => sx_e_nx rfl rfl,
  fun _ _ _ _ _ => sx_e_nx rfl rfl,
  fun _ _ _ _ _ _ => sx_e_nx rfl rfl,
  fun _ _ _ _ _ _ _ => sx_e_ieq rfl (by decide) rfl,
  fun _ _ _ _ _ => sx_e_nx rfl rfl,
  fun _ _ _ _ _ _ => sx_e_nx rfl rfl,
  fun _ _ _ _ _ _ _ => sx_e_nx rfl rfl,
  fun _ _ _ _ _ _ _ _ => sx_e_nx rfl rfl,
  fun _ _ _ _ _ _ _ _ _ => sx_e_nx rfl rfl,
  fun _ _ _ _ _ _ _ _ _ _ => sx_e_nx rfl rfl,
  fun _ _ _ _ _ _ _ _ _ hv => sx_e_virt rfl rfl ⟨Nat.le_of_ble_eq_true rfl, Nat.le_of_ble_eq_true rfl, rfl⟩ rfl rfl rfl hv,
  fun _ _ _ _ => rfl,
  fun _ _ _ _ => rfl,
  fun _ _ _ _ _ _ _ => sx_e_ine rfl (by decide) rfl,
  fun _ _ _ _ _ => sx_e_nx rfl rfl,
  fun _ _ _ _ _ _ => sx_e_nx rfl rfl,
  fun _ _ _ _ _ _ _ => sx_e_nx rfl rfl,
  fun _ _ _ _ _ _ _ _ => sx_e_nx rfl rfl,
  fun _ _ _ _ _ _ _ _ _ => sx_e_nx rfl rfl,
  fun _ _ _ _ _ _ _ _ _ _ => sx_e_nx rfl rfl,
  fun _ _ _ _ _ _ _ _ _ hv => sx_e_virt rfl rfl ⟨Nat.le_of_ble_eq_true rfl, Nat.le_of_ble_eq_true rfl, rfl⟩ rfl rfl rfl hv,
  fun _ _ _ _ => rfl,
  fun _ _ _ _ => rfl,
  fun _ _ _ _ _ _ _ => sx_e_ine rfl (by decide) rfl,
  fun _ _ _ _ _ => sx_e_nx rfl rfl,
  fun _ _ _ _ _ _ => sx_e_goto rfl (by decide),
  fun _ _ _ _ _ => sx_e_nx rfl rfl,
  fun _ _ _ _ _ _ hv => sx_e_ret rfl rfl hv⟩
/-- 43: X5_leavesFrame (LBeadslant$Cloth;II)Z -/
theorem c43_q (S : List Int32) : ∀ (a0 : Nat) (a1 : Int32) (a2 : Int32) (h : sx_H), sx_Cl S 43 [.ref a0, .int a1, .int a2] h = sx_Ev S 43 0 [some (.ref a0), some (.int a1), some (.int a2), none, none] [] h := fun _ _ _ _ => rfl
theorem q43 (S : List Int32) : (∀ (l0 l2 l3 l4 : Option Value) (x : Int32) (h : sx_H), sx_Ev S 43 0 [l0, some (.int x), l2, l3, l4] [] h = sx_Ev S 43 1 [l0, some (.int x), l2, l3, l4] [.int x] h) ∧
  (∀ (l0 l1 l2 l3 l4 : Option Value) (s0 : Int32) (h : sx_H), sx_Ev S 43 1 [l0, l1, l2, l3, l4] [.int s0] h = if 0 < s0 then sx_Ev S 43 4 [l0, l1, l2, l3, l4] [] h else sx_Ev S 43 30 [l0, l1, l2, l3, l4] [] h) ∧
  (∀ (l0 l2 l3 l4 : Option Value) (x : Int32) (h : sx_H), sx_Ev S 43 4 [l0, some (.int x), l2, l3, l4] [] h = sx_Ev S 43 5 [l0, some (.int x), l2, l3, l4] [.int x] h) ∧
  (∀ (l1 l2 l3 l4 : Option Value) (s0 : Int32) (x : Nat) (h : sx_H), sx_Ev S 43 5 [some (.ref x), l1, l2, l3, l4] [.int s0] h = sx_Ev S 43 6 [some (.ref x), l1, l2, l3, l4] [.ref x, .int s0] h) ∧
  (∀ (l0 l1 l2 l3 l4 : Option Value) (s0 : Nat) (s1 : Int32) (h : sx_H), sx_Ev S 43 6 [l0, l1, l2, l3, l4] [.ref s0, .int s1] h = (sx_fld h s0 0 3).bind fun v => sx_Ev S 43 9 [l0, l1, l2, l3, l4] [v, .int s1] h) ∧
  (∀ (l0 l1 l2 l3 l4 : Option Value) (s0 : Int32) (s1 : Int32) (h : sx_H), sx_Ev S 43 9 [l0, l1, l2, l3, l4] [.int s0, .int s1] h = sx_Ev S 43 10 [l0, l1, l2, l3, l4] [.int (sz (1)), .int s0, .int s1] h) ∧
  (∀ (l0 l1 l2 l3 l4 : Option Value) (s0 : Int32) (s1 : Int32) (s2 : Int32) (h : sx_H), sx_Ev S 43 10 [l0, l1, l2, l3, l4] [.int s0, .int s1, .int s2] h = sx_Ev S 43 11 [l0, l1, l2, l3, l4] [.int (s1 - s0), .int s2] h) ∧
  (∀ (l0 l1 l2 l3 l4 : Option Value) (s0 : Int32) (s1 : Int32) (h : sx_H), sx_Ev S 43 11 [l0, l1, l2, l3, l4] [.int s0, .int s1] h = if s1 < s0 then sx_Ev S 43 14 [l0, l1, l2, l3, l4] [] h else sx_Ev S 43 30 [l0, l1, l2, l3, l4] [] h) ∧
  (∀ (l0 l1 l3 l4 : Option Value) (x : Int32) (h : sx_H), sx_Ev S 43 14 [l0, l1, some (.int x), l3, l4] [] h = sx_Ev S 43 15 [l0, l1, some (.int x), l3, l4] [.int x] h) ∧
  (∀ (l0 l1 l2 l3 l4 : Option Value) (s0 : Int32) (h : sx_H), sx_Ev S 43 15 [l0, l1, l2, l3, l4] [.int s0] h = if 0 < s0 then sx_Ev S 43 18 [l0, l1, l2, l3, l4] [] h else sx_Ev S 43 30 [l0, l1, l2, l3, l4] [] h) ∧
  (∀ (l0 l1 l3 l4 : Option Value) (x : Int32) (h : sx_H), sx_Ev S 43 18 [l0, l1, some (.int x), l3, l4] [] h = sx_Ev S 43 19 [l0, l1, some (.int x), l3, l4] [.int x] h) ∧
  (∀ (l1 l2 l3 l4 : Option Value) (s0 : Int32) (x : Nat) (h : sx_H), sx_Ev S 43 19 [some (.ref x), l1, l2, l3, l4] [.int s0] h = sx_Ev S 43 20 [some (.ref x), l1, l2, l3, l4] [.ref x, .int s0] h) ∧
  (∀ (l0 l1 l2 l3 l4 : Option Value) (s0 : Nat) (s1 : Int32) (h : sx_H), sx_Ev S 43 20 [l0, l1, l2, l3, l4] [.ref s0, .int s1] h = (sx_fld h s0 0 2).bind fun v => sx_Ev S 43 23 [l0, l1, l2, l3, l4] [v, .int s1] h) ∧
  (∀ (l0 l1 l2 l3 l4 : Option Value) (s0 : Int32) (s1 : Int32) (h : sx_H), sx_Ev S 43 23 [l0, l1, l2, l3, l4] [.int s0, .int s1] h = sx_Ev S 43 24 [l0, l1, l2, l3, l4] [.int (sz (1)), .int s0, .int s1] h) ∧
  (∀ (l0 l1 l2 l3 l4 : Option Value) (s0 : Int32) (s1 : Int32) (s2 : Int32) (h : sx_H), sx_Ev S 43 24 [l0, l1, l2, l3, l4] [.int s0, .int s1, .int s2] h = sx_Ev S 43 25 [l0, l1, l2, l3, l4] [.int (s1 - s0), .int s2] h) ∧
  (∀ (l0 l1 l2 l3 l4 : Option Value) (s0 : Int32) (s1 : Int32) (h : sx_H), sx_Ev S 43 25 [l0, l1, l2, l3, l4] [.int s0, .int s1] h = if s1 < s0 then sx_Ev S 43 28 [l0, l1, l2, l3, l4] [] h else sx_Ev S 43 30 [l0, l1, l2, l3, l4] [] h) ∧
  (∀ (l0 l1 l2 l3 l4 : Option Value) (h : sx_H), sx_Ev S 43 28 [l0, l1, l2, l3, l4] [] h = sx_Ev S 43 29 [l0, l1, l2, l3, l4] [.int (sz (0))] h) ∧
  (∀ (l0 l1 l2 l3 l4 : Option Value) (s0 : Int32) (h : sx_H), narrow .boolean (.int s0) = .int s0 → sx_Ev S 43 29 [l0, l1, l2, l3, l4] [.int s0] h = some (.inl (some (.int s0)), h)) ∧
  (∀ (l1 l2 l3 l4 : Option Value) (x : Nat) (h : sx_H), sx_Ev S 43 30 [some (.ref x), l1, l2, l3, l4] [] h = sx_Ev S 43 31 [some (.ref x), l1, l2, l3, l4] [.ref x] h) ∧
  (∀ (l0 l1 l2 l3 l4 : Option Value) (s0 : Nat) (h : sx_H), sx_Ev S 43 31 [l0, l1, l2, l3, l4] [.ref s0] h = sx_Ev S 43 32 [l0, l1, l2, l3, l4] [.int (sz (0)), .ref s0] h) ∧
  (∀ (l0 l1 l2 l3 l4 : Option Value) (s0 : Int32) (s1 : Nat) (h : sx_H), sx_Ev S 43 32 [l0, l1, l2, l3, l4] [.int s0, .ref s1] h = sx_Ev S 43 33 [l0, l1, l2, l3, l4] [.int (sz (0)), .int s0, .ref s1] h) ∧
  (∀ (l0 l1 l2 l3 l4 : Option Value) (s0 : Int32) (s1 : Int32) (s2 : Nat) (h : sx_H), sx_klass h s2 = some 0 → sx_Ev S 43 33 [l0, l1, l2, l3, l4] [.int s0, .int s1, .ref s2] h = sx_back S 43 33 [l0, l1, l2, l3, l4] [] (sx_Cl S 0 [.ref s2, .int s1, .int s0] h)) ∧
  (∀ (ls : sx_L) (st : List Value) (v : Value) (h : sx_H), sx_back S 43 33 ls st (some (.inl (some v), h)) = sx_Ev S 43 36 ls (v :: st) h) ∧
  (∀ (ls : sx_L) (st : List Value) (e : Nat) (h : sx_H), sx_back S 43 33 ls st (some (.inr e, h)) = some (.inr e, h)) ∧
  (∀ (l0 l1 l2 l3 l4 : Option Value) (s0 : Int32) (h : sx_H), sx_Ev S 43 36 [l0, l1, l2, l3, l4] [.int s0] h = sx_Ev S 43 37 [l0, l1, l2, some (.int s0), l4] [] h) ∧
  (∀ (l1 l2 l3 l4 : Option Value) (x : Nat) (h : sx_H), sx_Ev S 43 37 [some (.ref x), l1, l2, l3, l4] [] h = sx_Ev S 43 38 [some (.ref x), l1, l2, l3, l4] [.ref x] h) ∧
  (∀ (l0 l2 l3 l4 : Option Value) (s0 : Nat) (x : Int32) (h : sx_H), sx_Ev S 43 38 [l0, some (.int x), l2, l3, l4] [.ref s0] h = sx_Ev S 43 39 [l0, some (.int x), l2, l3, l4] [.int x, .ref s0] h) ∧
  (∀ (l0 l1 l3 l4 : Option Value) (s0 : Int32) (s1 : Nat) (x : Int32) (h : sx_H), sx_Ev S 43 39 [l0, l1, some (.int x), l3, l4] [.int s0, .ref s1] h = sx_Ev S 43 40 [l0, l1, some (.int x), l3, l4] [.int x, .int s0, .ref s1] h) ∧
  (∀ (l0 l1 l2 l3 l4 : Option Value) (s0 : Int32) (s1 : Int32) (s2 : Nat) (h : sx_H), sx_klass h s2 = some 0 → sx_Ev S 43 40 [l0, l1, l2, l3, l4] [.int s0, .int s1, .ref s2] h = sx_back S 43 40 [l0, l1, l2, l3, l4] [] (sx_Cl S 0 [.ref s2, .int s1, .int s0] h)) ∧
  (∀ (ls : sx_L) (st : List Value) (v : Value) (h : sx_H), sx_back S 43 40 ls st (some (.inl (some v), h)) = sx_Ev S 43 43 ls (v :: st) h) ∧
  (∀ (ls : sx_L) (st : List Value) (e : Nat) (h : sx_H), sx_back S 43 40 ls st (some (.inr e, h)) = some (.inr e, h)) ∧
  (∀ (l0 l1 l2 l3 l4 : Option Value) (s0 : Int32) (h : sx_H), sx_Ev S 43 43 [l0, l1, l2, l3, l4] [.int s0] h = sx_Ev S 43 45 [l0, l1, l2, l3, some (.int s0)] [] h) ∧
  (∀ (l0 l1 l2 l4 : Option Value) (x : Int32) (h : sx_H), sx_Ev S 43 45 [l0, l1, l2, some (.int x), l4] [] h = sx_Ev S 43 46 [l0, l1, l2, some (.int x), l4] [.int x] h) ∧
  (∀ (l0 l1 l2 l3 l4 : Option Value) (s0 : Int32) (h : sx_H), sx_Ev S 43 46 [l0, l1, l2, l3, l4] [.int s0] h = sx_Ev S 43 47 [l0, l1, l2, l3, l4] [.int (sz (-1)), .int s0] h) ∧
  (∀ (l0 l1 l2 l3 l4 : Option Value) (s0 : Int32) (s1 : Int32) (h : sx_H), sx_Ev S 43 47 [l0, l1, l2, l3, l4] [.int s0, .int s1] h = if s1 = s0 then sx_Ev S 43 66 [l0, l1, l2, l3, l4] [] h else sx_Ev S 43 50 [l0, l1, l2, l3, l4] [] h) ∧
  (∀ (l0 l1 l2 l3 : Option Value) (x : Int32) (h : sx_H), sx_Ev S 43 50 [l0, l1, l2, l3, some (.int x)] [] h = sx_Ev S 43 52 [l0, l1, l2, l3, some (.int x)] [.int x] h) ∧
  (∀ (l0 l1 l2 l3 l4 : Option Value) (s0 : Int32) (h : sx_H), sx_Ev S 43 52 [l0, l1, l2, l3, l4] [.int s0] h = sx_Ev S 43 53 [l0, l1, l2, l3, l4] [.int (sz (-1)), .int s0] h) ∧
  (∀ (l0 l1 l2 l3 l4 : Option Value) (s0 : Int32) (s1 : Int32) (h : sx_H), sx_Ev S 43 53 [l0, l1, l2, l3, l4] [.int s0, .int s1] h = if s1 = s0 then sx_Ev S 43 66 [l0, l1, l2, l3, l4] [] h else sx_Ev S 43 56 [l0, l1, l2, l3, l4] [] h) ∧
  (∀ (l0 l1 l2 l3 : Option Value) (x : Int32) (h : sx_H), sx_Ev S 43 56 [l0, l1, l2, l3, some (.int x)] [] h = sx_Ev S 43 58 [l0, l1, l2, l3, some (.int x)] [.int x] h) ∧
  (∀ (l0 l1 l2 l4 : Option Value) (s0 : Int32) (x : Int32) (h : sx_H), sx_Ev S 43 58 [l0, l1, l2, some (.int x), l4] [.int s0] h = sx_Ev S 43 59 [l0, l1, l2, some (.int x), l4] [.int x, .int s0] h) ∧
  (∀ (l0 l1 l2 l3 l4 : Option Value) (s0 : Int32) (s1 : Int32) (h : sx_H), sx_Ev S 43 59 [l0, l1, l2, l3, l4] [.int s0, .int s1] h = if s1 = s0 then sx_Ev S 43 66 [l0, l1, l2, l3, l4] [] h else sx_Ev S 43 62 [l0, l1, l2, l3, l4] [] h) ∧
  (∀ (l0 l1 l2 l3 l4 : Option Value) (h : sx_H), sx_Ev S 43 62 [l0, l1, l2, l3, l4] [] h = sx_Ev S 43 63 [l0, l1, l2, l3, l4] [.int (sz (1))] h) ∧
  (∀ (l0 l1 l2 l3 l4 : Option Value) (s0 : Int32) (h : sx_H), sx_Ev S 43 63 [l0, l1, l2, l3, l4] [.int s0] h = sx_Ev S 43 67 [l0, l1, l2, l3, l4] [.int s0] h) ∧
  (∀ (l0 l1 l2 l3 l4 : Option Value) (h : sx_H), sx_Ev S 43 66 [l0, l1, l2, l3, l4] [] h = sx_Ev S 43 67 [l0, l1, l2, l3, l4] [.int (sz (0))] h) ∧
  (∀ (l0 l1 l2 l3 l4 : Option Value) (s0 : Int32) (h : sx_H), narrow .boolean (.int s0) = .int s0 → sx_Ev S 43 67 [l0, l1, l2, l3, l4] [.int s0] h = some (.inl (some (.int s0)), h)) := ⟨fun _ _ _ _ _ _ => sx_e_nx rfl rfl,
  fun _ _ _ _ _ _ _ => sx_e_le rfl (by decide) rfl,
  fun _ _ _ _ _ _ => sx_e_nx rfl rfl,
  fun _ _ _ _ _ _ _ => sx_e_nx rfl rfl,
  fun _ _ _ _ _ _ _ _ => sx_e_getf rfl rfl (by decide) rfl,
  fun _ _ _ _ _ _ _ _ => sx_e_nx rfl rfl,
  fun _ _ _ _ _ _ _ _ _ => sx_e_nx rfl rfl,
  fun _ _ _ _ _ _ _ _ => sx_e_ige rfl (by decide) rfl,
  fun _ _ _ _ _ _ => sx_e_nx rfl rfl,
  fun _ _ _ _ _ _ _ => sx_e_le rfl (by decide) rfl,
  fun _ _ _ _ _ _ => sx_e_nx rfl rfl,
  fun _ _ _ _ _ _ _ => sx_e_nx rfl rfl,
  fun _ _ _ _ _ _ _ _ => sx_e_getf rfl rfl (by decide) rfl,
  fun _ _ _ _ _ _ _ _ => sx_e_nx rfl rfl,
  fun _ _ _ _ _ _ _ _ _ => sx_e_nx rfl rfl,
  fun _ _ _ _ _ _ _ _ => sx_e_ige rfl (by decide) rfl,
  fun _ _ _ _ _ _ => sx_e_nx rfl rfl,
  fun _ _ _ _ _ _ _ hv => sx_e_ret rfl rfl hv,
  fun _ _ _ _ _ _ => sx_e_nx rfl rfl,
  fun _ _ _ _ _ _ _ => sx_e_nx rfl rfl,
  fun _ _ _ _ _ _ _ _ => sx_e_nx rfl rfl,
  fun _ _ _ _ _ _ _ _ _ hv => sx_e_virt rfl rfl ⟨Nat.le_of_ble_eq_true rfl, Nat.le_of_ble_eq_true rfl, rfl⟩ rfl rfl rfl hv,
  fun _ _ _ _ => rfl,
  fun _ _ _ _ => rfl,
  fun _ _ _ _ _ _ _ => sx_e_nx rfl rfl,
  fun _ _ _ _ _ _ => sx_e_nx rfl rfl,
  fun _ _ _ _ _ _ _ => sx_e_nx rfl rfl,
  fun _ _ _ _ _ _ _ _ => sx_e_nx rfl rfl,
  fun _ _ _ _ _ _ _ _ _ hv => sx_e_virt rfl rfl ⟨Nat.le_of_ble_eq_true rfl, Nat.le_of_ble_eq_true rfl, rfl⟩ rfl rfl rfl hv,
  fun _ _ _ _ => rfl,
  fun _ _ _ _ => rfl,
  fun _ _ _ _ _ _ _ => sx_e_nx rfl rfl,
  fun _ _ _ _ _ _ => sx_e_nx rfl rfl,
  fun _ _ _ _ _ _ _ => sx_e_nx rfl rfl,
  fun _ _ _ _ _ _ _ _ => sx_e_ieq rfl (by decide) rfl,
  fun _ _ _ _ _ _ => sx_e_nx rfl rfl,
  fun _ _ _ _ _ _ _ => sx_e_nx rfl rfl,
  fun _ _ _ _ _ _ _ _ => sx_e_ieq rfl (by decide) rfl,
  fun _ _ _ _ _ _ => sx_e_nx rfl rfl,
  fun _ _ _ _ _ _ _ => sx_e_nx rfl rfl,
  fun _ _ _ _ _ _ _ _ => sx_e_ieq rfl (by decide) rfl,
  fun _ _ _ _ _ _ => sx_e_nx rfl rfl,
  fun _ _ _ _ _ _ _ => sx_e_goto rfl (by decide),
  fun _ _ _ _ _ _ => sx_e_nx rfl rfl,
  fun _ _ _ _ _ _ _ hv => sx_e_ret rfl rfl hv⟩
/-- 44: X8_areNeighbours (LBeadslant$Cloth;IIII)Z -/
theorem c44_q (S : List Int32) : ∀ (a0 : Nat) (a1 : Int32) (a2 : Int32) (a3 : Int32) (a4 : Int32) (h : sx_H), sx_Cl S 44 [.ref a0, .int a1, .int a2, .int a3, .int a4] h = sx_Ev S 44 0 [some (.ref a0), some (.int a1), some (.int a2), some (.int a3), some (.int a4)] [] h := fun _ _ _ _ _ _ => rfl
theorem q44 (S : List Int32) : (∀ (l0 l1 l2 l4 : Option Value) (x : Int32) (h : sx_H), sx_Ev S 44 0 [l0, l1, l2, some (.int x), l4] [] h = sx_Ev S 44 1 [l0, l1, l2, some (.int x), l4] [.int x] h) ∧
  (∀ (l0 l1 l2 l3 l4 : Option Value) (s0 : Int32) (h : sx_H), sx_Ev S 44 1 [l0, l1, l2, l3, l4] [.int s0] h = if s0 = 0 then sx_Ev S 44 9 [l0, l1, l2, l3, l4] [] h else sx_Ev S 44 4 [l0, l1, l2, l3, l4] [] h) ∧
  (∀ (l0 l1 l2 l3 : Option Value) (x : Int32) (h : sx_H), sx_Ev S 44 4 [l0, l1, l2, l3, some (.int x)] [] h = sx_Ev S 44 6 [l0, l1, l2, l3, some (.int x)] [.int x] h) ∧
  (∀ (l0 l1 l2 l3 l4 : Option Value) (s0 : Int32) (h : sx_H), sx_Ev S 44 6 [l0, l1, l2, l3, l4] [.int s0] h = if s0 = 0 then sx_Ev S 44 9 [l0, l1, l2, l3, l4] [] h else sx_Ev S 44 21 [l0, l1, l2, l3, l4] [] h) ∧
  (∀ (l0 l1 l2 l4 : Option Value) (x : Int32) (h : sx_H), sx_Ev S 44 9 [l0, l1, l2, some (.int x), l4] [] h = sx_Ev S 44 10 [l0, l1, l2, some (.int x), l4] [.int x] h) ∧
  (∀ (l0 l1 l2 l3 : Option Value) (s0 : Int32) (x : Int32) (h : sx_H), sx_Ev S 44 10 [l0, l1, l2, l3, some (.int x)] [.int s0] h = sx_Ev S 44 12 [l0, l1, l2, l3, some (.int x)] [.int x, .int s0] h) ∧
  (∀ (l0 l1 l2 l3 l4 : Option Value) (s0 : Int32) (s1 : Int32) (h : sx_H), sx_Ev S 44 12 [l0, l1, l2, l3, l4] [.int s0, .int s1] h = if s1 = s0 then sx_Ev S 44 19 [l0, l1, l2, l3, l4] [] h else sx_Ev S 44 15 [l0, l1, l2, l3, l4] [] h) ∧
  (∀ (l0 l1 l2 l3 l4 : Option Value) (h : sx_H), sx_Ev S 44 15 [l0, l1, l2, l3, l4] [] h = sx_Ev S 44 16 [l0, l1, l2, l3, l4] [.int (sz (1))] h) ∧
  (∀ (l0 l1 l2 l3 l4 : Option Value) (s0 : Int32) (h : sx_H), sx_Ev S 44 16 [l0, l1, l2, l3, l4] [.int s0] h = sx_Ev S 44 20 [l0, l1, l2, l3, l4] [.int s0] h) ∧
  (∀ (l0 l1 l2 l3 l4 : Option Value) (h : sx_H), sx_Ev S 44 19 [l0, l1, l2, l3, l4] [] h = sx_Ev S 44 20 [l0, l1, l2, l3, l4] [.int (sz (0))] h) ∧
  (∀ (l0 l1 l2 l3 l4 : Option Value) (s0 : Int32) (h : sx_H), narrow .boolean (.int s0) = .int s0 → sx_Ev S 44 20 [l0, l1, l2, l3, l4] [.int s0] h = some (.inl (some (.int s0)), h)) ∧
  (∀ (l1 l2 l3 l4 : Option Value) (x : Nat) (h : sx_H), sx_Ev S 44 21 [some (.ref x), l1, l2, l3, l4] [] h = sx_Ev S 44 22 [some (.ref x), l1, l2, l3, l4] [.ref x] h) ∧
  (∀ (l0 l1 l2 l3 l4 : Option Value) (s0 : Nat) (h : sx_H), sx_Ev S 44 22 [l0, l1, l2, l3, l4] [.ref s0] h = (sx_fld h s0 0 1).bind fun v => sx_Ev S 44 25 [l0, l1, l2, l3, l4] [v] h) ∧
  (∀ (l0 l1 l2 l3 l4 : Option Value) (s0 : Int32) (h : sx_H), sx_Ev S 44 25 [l0, l1, l2, l3, l4] [.int s0] h = sx_Ev S 44 27 [l0, l1, l2, l3, l4] [.int (sz (112)), .int s0] h) ∧
  (∀ (l0 l1 l2 l3 l4 : Option Value) (s0 : Int32) (s1 : Int32) (h : sx_H), sx_Ev S 44 27 [l0, l1, l2, l3, l4] [.int s0, .int s1] h = if s1 = s0 then sx_Ev S 44 30 [l0, l1, l2, l3, l4] [] h else sx_Ev S 44 52 [l0, l1, l2, l3, l4] [] h) ∧
  (∀ (l0 l1 l2 l4 : Option Value) (x : Int32) (h : sx_H), sx_Ev S 44 30 [l0, l1, l2, some (.int x), l4] [] h = sx_Ev S 44 31 [l0, l1, l2, some (.int x), l4] [.int x] h) ∧
  (∀ (l0 l1 l3 l4 : Option Value) (s0 : Int32) (x : Int32) (h : sx_H), sx_Ev S 44 31 [l0, l1, some (.int x), l3, l4] [.int s0] h = sx_Ev S 44 32 [l0, l1, some (.int x), l3, l4] [.int x, .int s0] h) ∧
  (∀ (l0 l1 l2 l3 l4 : Option Value) (s0 : Int32) (s1 : Int32) (h : sx_H), sx_Ev S 44 32 [l0, l1, l2, l3, l4] [.int s0, .int s1] h = sx_Ev S 44 33 [l0, l1, l2, l3, l4] [.int (sz (1)), .int s0, .int s1] h) ∧
  (∀ (l0 l1 l2 l3 l4 : Option Value) (s0 : Int32) (s1 : Int32) (s2 : Int32) (h : sx_H), sx_Ev S 44 33 [l0, l1, l2, l3, l4] [.int s0, .int s1, .int s2] h = sx_Ev S 44 34 [l0, l1, l2, l3, l4] [.int (s1 &&& s0), .int s2] h) ∧
  (∀ (l0 l1 l2 l3 l4 : Option Value) (s0 : Int32) (s1 : Int32) (h : sx_H), sx_Ev S 44 34 [l0, l1, l2, l3, l4] [.int s0, .int s1] h = sx_Ev S 44 35 [l0, l1, l2, l3, l4] [.int (sz (1)), .int s0, .int s1] h) ∧
  (∀ (l0 l1 l2 l3 l4 : Option Value) (s0 : Int32) (s1 : Int32) (s2 : Int32) (h : sx_H), sx_Ev S 44 35 [l0, l1, l2, l3, l4] [.int s0, .int s1, .int s2] h = if s1 = s0 then sx_Ev S 44 38 [l0, l1, l2, l3, l4] [.int s2] h else sx_Ev S 44 42 [l0, l1, l2, l3, l4] [.int s2] h) ∧
  (∀ (l0 l1 l2 l3 l4 : Option Value) (s0 : Int32) (h : sx_H), sx_Ev S 44 38 [l0, l1, l2, l3, l4] [.int s0] h = sx_Ev S 44 39 [l0, l1, l2, l3, l4] [.int (sz (1)), .int s0] h) ∧
  (∀ (l0 l1 l2 l3 l4 : Option Value) (s0 : Int32) (s1 : Int32) (h : sx_H), sx_Ev S 44 39 [l0, l1, l2, l3, l4] [.int s0, .int s1] h = sx_Ev S 44 43 [l0, l1, l2, l3, l4] [.int s0, .int s1] h) ∧
  (∀ (l0 l1 l2 l3 l4 : Option Value) (s0 : Int32) (h : sx_H), sx_Ev S 44 42 [l0, l1, l2, l3, l4] [.int s0] h = sx_Ev S 44 43 [l0, l1, l2, l3, l4] [.int (sz (-1)), .int s0] h) ∧
  (∀ (l0 l1 l2 l3 l4 : Option Value) (s0 : Int32) (s1 : Int32) (h : sx_H), sx_Ev S 44 43 [l0, l1, l2, l3, l4] [.int s0, .int s1] h = if s1 = s0 then sx_Ev S 44 46 [l0, l1, l2, l3, l4] [] h else sx_Ev S 44 50 [l0, l1, l2, l3, l4] [] h) ∧
  (∀ (l0 l1 l2 l3 l4 : Option Value) (h : sx_H), sx_Ev S 44 46 [l0, l1, l2, l3, l4] [] h = sx_Ev S 44 47 [l0, l1, l2, l3, l4] [.int (sz (1))] h) ∧
  (∀ (l0 l1 l2 l3 l4 : Option Value) (s0 : Int32) (h : sx_H), sx_Ev S 44 47 [l0, l1, l2, l3, l4] [.int s0] h = sx_Ev S 44 51 [l0, l1, l2, l3, l4] [.int s0] h) ∧
  (∀ (l0 l1 l2 l3 l4 : Option Value) (h : sx_H), sx_Ev S 44 50 [l0, l1, l2, l3, l4] [] h = sx_Ev S 44 51 [l0, l1, l2, l3, l4] [.int (sz (0))] h) ∧
  (∀ (l0 l1 l2 l3 l4 : Option Value) (s0 : Int32) (h : sx_H), narrow .boolean (.int s0) = .int s0 → sx_Ev S 44 51 [l0, l1, l2, l3, l4] [.int s0] h = some (.inl (some (.int s0)), h)) ∧
  (∀ (l1 l2 l3 l4 : Option Value) (x : Nat) (h : sx_H), sx_Ev S 44 52 [some (.ref x), l1, l2, l3, l4] [] h = sx_Ev S 44 53 [some (.ref x), l1, l2, l3, l4] [.ref x] h) ∧
  (∀ (l0 l1 l2 l3 l4 : Option Value) (s0 : Nat) (h : sx_H), sx_Ev S 44 53 [l0, l1, l2, l3, l4] [.ref s0] h = (sx_fld h s0 0 1).bind fun v => sx_Ev S 44 56 [l0, l1, l2, l3, l4] [v] h) ∧
  (∀ (l0 l1 l2 l3 l4 : Option Value) (s0 : Int32) (h : sx_H), sx_Ev S 44 56 [l0, l1, l2, l3, l4] [.int s0] h = sx_Ev S 44 58 [l0, l1, l2, l3, l4] [.int (sz (98)), .int s0] h) ∧
  (∀ (l0 l1 l2 l3 l4 : Option Value) (s0 : Int32) (s1 : Int32) (h : sx_H), sx_Ev S 44 58 [l0, l1, l2, l3, l4] [.int s0, .int s1] h = if s1 = s0 then sx_Ev S 44 61 [l0, l1, l2, l3, l4] [] h else sx_Ev S 44 84 [l0, l1, l2, l3, l4] [] h) ∧
  (∀ (l0 l1 l2 l3 : Option Value) (x : Int32) (h : sx_H), sx_Ev S 44 61 [l0, l1, l2, l3, some (.int x)] [] h = sx_Ev S 44 63 [l0, l1, l2, l3, some (.int x)] [.int x] h) ∧
  (∀ (l0 l2 l3 l4 : Option Value) (s0 : Int32) (x : Int32) (h : sx_H), sx_Ev S 44 63 [l0, some (.int x), l2, l3, l4] [.int s0] h = sx_Ev S 44 64 [l0, some (.int x), l2, l3, l4] [.int x, .int s0] h) ∧
  (∀ (l0 l1 l2 l3 l4 : Option Value) (s0 : Int32) (s1 : Int32) (h : sx_H), sx_Ev S 44 64 [l0, l1, l2, l3, l4] [.int s0, .int s1] h = sx_Ev S 44 65 [l0, l1, l2, l3, l4] [.int (sz (1)), .int s0, .int s1] h) ∧
  (∀ (l0 l1 l2 l3 l4 : Option Value) (s0 : Int32) (s1 : Int32) (s2 : Int32) (h : sx_H), sx_Ev S 44 65 [l0, l1, l2, l3, l4] [.int s0, .int s1, .int s2] h = sx_Ev S 44 66 [l0, l1, l2, l3, l4] [.int (s1 &&& s0), .int s2] h) ∧
  (∀ (l0 l1 l2 l3 l4 : Option Value) (s0 : Int32) (s1 : Int32) (h : sx_H), sx_Ev S 44 66 [l0, l1, l2, l3, l4] [.int s0, .int s1] h = sx_Ev S 44 67 [l0, l1, l2, l3, l4] [.int (sz (1)), .int s0, .int s1] h) ∧
  (∀ (l0 l1 l2 l3 l4 : Option Value) (s0 : Int32) (s1 : Int32) (s2 : Int32) (h : sx_H), sx_Ev S 44 67 [l0, l1, l2, l3, l4] [.int s0, .int s1, .int s2] h = if s1 = s0 then sx_Ev S 44 70 [l0, l1, l2, l3, l4] [.int s2] h else sx_Ev S 44 74 [l0, l1, l2, l3, l4] [.int s2] h) ∧
  (∀ (l0 l1 l2 l3 l4 : Option Value) (s0 : Int32) (h : sx_H), sx_Ev S 44 70 [l0, l1, l2, l3, l4] [.int s0] h = sx_Ev S 44 71 [l0, l1, l2, l3, l4] [.int (sz (1)), .int s0] h) ∧
  (∀ (l0 l1 l2 l3 l4 : Option Value) (s0 : Int32) (s1 : Int32) (h : sx_H), sx_Ev S 44 71 [l0, l1, l2, l3, l4] [.int s0, .int s1] h = sx_Ev S 44 75 [l0, l1, l2, l3, l4] [.int s0, .int s1] h) ∧
  (∀ (l0 l1 l2 l3 l4 : Option Value) (s0 : Int32) (h : sx_H), sx_Ev S 44 74 [l0, l1, l2, l3, l4] [.int s0] h = sx_Ev S 44 75 [l0, l1, l2, l3, l4] [.int (sz (-1)), .int s0] h) ∧
  (∀ (l0 l1 l2 l3 l4 : Option Value) (s0 : Int32) (s1 : Int32) (h : sx_H), sx_Ev S 44 75 [l0, l1, l2, l3, l4] [.int s0, .int s1] h = if s1 = s0 then sx_Ev S 44 78 [l0, l1, l2, l3, l4] [] h else sx_Ev S 44 82 [l0, l1, l2, l3, l4] [] h) ∧
  (∀ (l0 l1 l2 l3 l4 : Option Value) (h : sx_H), sx_Ev S 44 78 [l0, l1, l2, l3, l4] [] h = sx_Ev S 44 79 [l0, l1, l2, l3, l4] [.int (sz (1))] h) ∧
  (∀ (l0 l1 l2 l3 l4 : Option Value) (s0 : Int32) (h : sx_H), sx_Ev S 44 79 [l0, l1, l2, l3, l4] [.int s0] h = sx_Ev S 44 83 [l0, l1, l2, l3, l4] [.int s0] h) ∧
  (∀ (l0 l1 l2 l3 l4 : Option Value) (h : sx_H), sx_Ev S 44 82 [l0, l1, l2, l3, l4] [] h = sx_Ev S 44 83 [l0, l1, l2, l3, l4] [.int (sz (0))] h) ∧
  (∀ (l0 l1 l2 l3 l4 : Option Value) (s0 : Int32) (h : sx_H), narrow .boolean (.int s0) = .int s0 → sx_Ev S 44 83 [l0, l1, l2, l3, l4] [.int s0] h = some (.inl (some (.int s0)), h)) ∧
  (∀ (l0 l1 l2 l3 l4 : Option Value) (h : sx_H), sx_Ev S 44 84 [l0, l1, l2, l3, l4] [] h = sx_Ev S 44 85 [l0, l1, l2, l3, l4] [.int (sz (0))] h) ∧
  (∀ (l0 l1 l2 l3 l4 : Option Value) (s0 : Int32) (h : sx_H), narrow .boolean (.int s0) = .int s0 → sx_Ev S 44 85 [l0, l1, l2, l3, l4] [.int s0] h = some (.inl (some (.int s0)), h)) := ⟨fun _ _ _ _ _ _ => sx_e_nx rfl rfl,
  fun _ _ _ _ _ _ _ => sx_e_eq rfl (by decide) rfl,
  fun _ _ _ _ _ _ => sx_e_nx rfl rfl,
  fun _ _ _ _ _ _ _ => sx_e_ne rfl (by decide) rfl,
  fun _ _ _ _ _ _ => sx_e_nx rfl rfl,
  fun _ _ _ _ _ _ _ => sx_e_nx rfl rfl,
  fun _ _ _ _ _ _ _ _ => sx_e_ieq rfl (by decide) rfl,
  fun _ _ _ _ _ _ => sx_e_nx rfl rfl,
  fun _ _ _ _ _ _ _ => sx_e_goto rfl (by decide),
  fun _ _ _ _ _ _ => sx_e_nx rfl rfl,
  fun _ _ _ _ _ _ _ hv => sx_e_ret rfl rfl hv,
  fun _ _ _ _ _ _ => sx_e_nx rfl rfl,
  fun _ _ _ _ _ _ _ => sx_e_getf rfl rfl (by decide) rfl,
  fun _ _ _ _ _ _ _ => sx_e_bi rfl (by decide +kernel) rfl,
  fun _ _ _ _ _ _ _ _ => sx_e_ine rfl (by decide) rfl,
  fun _ _ _ _ _ _ => sx_e_nx rfl rfl,
  fun _ _ _ _ _ _ _ => sx_e_nx rfl rfl,
  fun _ _ _ _ _ _ _ _ => sx_e_nx rfl rfl,
  fun _ _ _ _ _ _ _ _ _ => sx_e_nx rfl rfl,
  fun _ _ _ _ _ _ _ _ => sx_e_nx rfl rfl,
  fun _ _ _ _ _ _ _ _ _ => sx_e_ine rfl (by decide) rfl,
  fun _ _ _ _ _ _ _ => sx_e_nx rfl rfl,
  fun _ _ _ _ _ _ _ _ => sx_e_goto rfl (by decide),
  fun _ _ _ _ _ _ _ => sx_e_nx rfl rfl,
  fun _ _ _ _ _ _ _ _ => sx_e_ine rfl (by decide) rfl,
  fun _ _ _ _ _ _ => sx_e_nx rfl rfl,
  fun _ _ _ _ _ _ _ => sx_e_goto rfl (by decide),
  fun _ _ _ _ _ _ => sx_e_nx rfl rfl,
  fun _ _ _ _ _ _ _ hv => sx_e_ret rfl rfl hv,
  fun _ _ _ _ _ _ => sx_e_nx rfl rfl,
  fun _ _ _ _ _ _ _ => sx_e_getf rfl rfl (by decide) rfl,
  fun _ _ _ _ _ _ _ => sx_e_bi rfl (by decide +kernel) rfl,
  fun _ _ _ _ _ _ _ _ => sx_e_ine rfl (by decide) rfl,
  fun _ _ _ _ _ _ => sx_e_nx rfl rfl,
  fun _ _ _ _ _ _ _ => sx_e_nx rfl rfl,
  fun _ _ _ _ _ _ _ _ => sx_e_nx rfl rfl,
  fun _ _ _ _ _ _ _ _ _ => sx_e_nx rfl rfl,
  fun _ _ _ _ _ _ _ _ => sx_e_nx rfl rfl,
  fun _ _ _ _ _ _ _ _ _ => sx_e_ine rfl (by decide) rfl,
  fun _ _ _ _ _ _ _ => sx_e_nx rfl rfl,
  fun _ _ _ _ _ _ _ _ => sx_e_goto rfl (by decide),
  fun _ _ _ _ _ _ _ => sx_e_nx rfl rfl,
  fun _ _ _ _ _ _ _ _ => sx_e_ine rfl (by decide) rfl,
  fun _ _ _ _ _ _ => sx_e_nx rfl rfl,
  fun _ _ _ _ _ _ _ => sx_e_goto rfl (by decide),
  fun _ _ _ _ _ _ => sx_e_nx rfl rfl,
  fun _ _ _ _ _ _ _ hv => sx_e_ret rfl rfl hv,
  fun _ _ _ _ _ _ => sx_e_nx rfl rfl,
  fun _ _ _ _ _ _ _ hv => sx_e_ret rfl rfl hv⟩
/-- 45: X8_isSlant (LBeadslant$Cloth;ZII)Z -/
theorem c45_q (S : List Int32) : ∀ (a0 : Nat) (a1 : Int32) (a2 : Int32) (a3 : Int32) (h : sx_H), sx_Cl S 45 [.ref a0, .int a1, .int a2, .int a3] h = sx_Ev S 45 0 [some (.ref a0), some (.int a1), some (.int a2), some (.int a3)] [] h := fun _ _ _ _ _ => rfl
theorem q45 (S : List Int32) : (∀ (l1 l2 l3 : Option Value) (x : Nat) (h : sx_H), sx_Ev S 45 0 [some (.ref x), l1, l2, l3] [] h = sx_Ev S 45 1 [some (.ref x), l1, l2, l3] [.ref x] h) ∧
  (∀ (l0 l1 l2 l3 : Option Value) (s0 : Nat) (h : sx_H), sx_Ev S 45 1 [l0, l1, l2, l3] [.ref s0] h = (sx_fld h s0 0 1).bind fun v => sx_Ev S 45 4 [l0, l1, l2, l3] [v] h) ∧
  (∀ (l0 l1 l2 l3 : Option Value) (s0 : Int32) (h : sx_H), sx_Ev S 45 4 [l0, l1, l2, l3] [.int s0] h = sx_Ev S 45 6 [l0, l1, l2, l3] [.int (sz (112)), .int s0] h) ∧
  (∀ (l0 l1 l2 l3 : Option Value) (s0 : Int32) (s1 : Int32) (h : sx_H), sx_Ev S 45 6 [l0, l1, l2, l3] [.int s0, .int s1] h = if s1 = s0 then sx_Ev S 45 9 [l0, l1, l2, l3] [] h else sx_Ev S 45 23 [l0, l1, l2, l3] [] h) ∧
  (∀ (l0 l2 l3 : Option Value) (x : Int32) (h : sx_H), sx_Ev S 45 9 [l0, some (.int x), l2, l3] [] h = sx_Ev S 45 10 [l0, some (.int x), l2, l3] [.int x] h) ∧
  (∀ (l0 l1 l2 l3 : Option Value) (s0 : Int32) (h : sx_H), sx_Ev S 45 10 [l0, l1, l2, l3] [.int s0] h = if s0 = 0 then sx_Ev S 45 21 [l0, l1, l2, l3] [] h else sx_Ev S 45 13 [l0, l1, l2, l3] [] h) ∧
  (∀ (l0 l1 l2 : Option Value) (x : Int32) (h : sx_H), sx_Ev S 45 13 [l0, l1, l2, some (.int x)] [] h = sx_Ev S 45 14 [l0, l1, l2, some (.int x)] [.int x] h) ∧
  (∀ (l0 l1 l2 l3 : Option Value) (s0 : Int32) (h : sx_H), sx_Ev S 45 14 [l0, l1, l2, l3] [.int s0] h = if s0 = 0 then sx_Ev S 45 21 [l0, l1, l2, l3] [] h else sx_Ev S 45 17 [l0, l1, l2, l3] [] h) ∧
  (∀ (l0 l1 l2 l3 : Option Value) (h : sx_H), sx_Ev S 45 17 [l0, l1, l2, l3] [] h = sx_Ev S 45 18 [l0, l1, l2, l3] [.int (sz (1))] h) ∧
  (∀ (l0 l1 l2 l3 : Option Value) (s0 : Int32) (h : sx_H), sx_Ev S 45 18 [l0, l1, l2, l3] [.int s0] h = sx_Ev S 45 22 [l0, l1, l2, l3] [.int s0] h) ∧
  (∀ (l0 l1 l2 l3 : Option Value) (h : sx_H), sx_Ev S 45 21 [l0, l1, l2, l3] [] h = sx_Ev S 45 22 [l0, l1, l2, l3] [.int (sz (0))] h) ∧
  (∀ (l0 l1 l2 l3 : Option Value) (s0 : Int32) (h : sx_H), narrow .boolean (.int s0) = .int s0 → sx_Ev S 45 22 [l0, l1, l2, l3] [.int s0] h = some (.inl (some (.int s0)), h)) ∧
  (∀ (l1 l2 l3 : Option Value) (x : Nat) (h : sx_H), sx_Ev S 45 23 [some (.ref x), l1, l2, l3] [] h = sx_Ev S 45 24 [some (.ref x), l1, l2, l3] [.ref x] h) ∧
  (∀ (l0 l1 l2 l3 : Option Value) (s0 : Nat) (h : sx_H), sx_Ev S 45 24 [l0, l1, l2, l3] [.ref s0] h = (sx_fld h s0 0 1).bind fun v => sx_Ev S 45 27 [l0, l1, l2, l3] [v] h) ∧
  (∀ (l0 l1 l2 l3 : Option Value) (s0 : Int32) (h : sx_H), sx_Ev S 45 27 [l0, l1, l2, l3] [.int s0] h = sx_Ev S 45 29 [l0, l1, l2, l3] [.int (sz (98)), .int s0] h) ∧
  (∀ (l0 l1 l2 l3 : Option Value) (s0 : Int32) (s1 : Int32) (h : sx_H), sx_Ev S 45 29 [l0, l1, l2, l3] [.int s0, .int s1] h = if s1 = s0 then sx_Ev S 45 32 [l0, l1, l2, l3] [] h else sx_Ev S 45 46 [l0, l1, l2, l3] [] h) ∧
  (∀ (l0 l2 l3 : Option Value) (x : Int32) (h : sx_H), sx_Ev S 45 32 [l0, some (.int x), l2, l3] [] h = sx_Ev S 45 33 [l0, some (.int x), l2, l3] [.int x] h) ∧
  (∀ (l0 l1 l2 l3 : Option Value) (s0 : Int32) (h : sx_H), sx_Ev S 45 33 [l0, l1, l2, l3] [.int s0] h = if s0 = 0 then sx_Ev S 45 44 [l0, l1, l2, l3] [] h else sx_Ev S 45 36 [l0, l1, l2, l3] [] h) ∧
  (∀ (l0 l1 l3 : Option Value) (x : Int32) (h : sx_H), sx_Ev S 45 36 [l0, l1, some (.int x), l3] [] h = sx_Ev S 45 37 [l0, l1, some (.int x), l3] [.int x] h) ∧
  (∀ (l0 l1 l2 l3 : Option Value) (s0 : Int32) (h : sx_H), sx_Ev S 45 37 [l0, l1, l2, l3] [.int s0] h = if s0 = 0 then sx_Ev S 45 44 [l0, l1, l2, l3] [] h else sx_Ev S 45 40 [l0, l1, l2, l3] [] h) ∧
  (∀ (l0 l1 l2 l3 : Option Value) (h : sx_H), sx_Ev S 45 40 [l0, l1, l2, l3] [] h = sx_Ev S 45 41 [l0, l1, l2, l3] [.int (sz (1))] h) ∧
  (∀ (l0 l1 l2 l3 : Option Value) (s0 : Int32) (h : sx_H), sx_Ev S 45 41 [l0, l1, l2, l3] [.int s0] h = sx_Ev S 45 45 [l0, l1, l2, l3] [.int s0] h) ∧
  (∀ (l0 l1 l2 l3 : Option Value) (h : sx_H), sx_Ev S 45 44 [l0, l1, l2, l3] [] h = sx_Ev S 45 45 [l0, l1, l2, l3] [.int (sz (0))] h) ∧
  (∀ (l0 l1 l2 l3 : Option Value) (s0 : Int32) (h : sx_H), narrow .boolean (.int s0) = .int s0 → sx_Ev S 45 45 [l0, l1, l2, l3] [.int s0] h = some (.inl (some (.int s0)), h)) ∧
  (∀ (l0 l1 l3 : Option Value) (x : Int32) (h : sx_H), sx_Ev S 45 46 [l0, l1, some (.int x), l3] [] h = sx_Ev S 45 47 [l0, l1, some (.int x), l3] [.int x] h) ∧
  (∀ (l0 l1 l2 l3 : Option Value) (s0 : Int32) (h : sx_H), sx_Ev S 45 47 [l0, l1, l2, l3] [.int s0] h = if s0 = 0 then sx_Ev S 45 58 [l0, l1, l2, l3] [] h else sx_Ev S 45 50 [l0, l1, l2, l3] [] h) ∧
  (∀ (l0 l1 l2 : Option Value) (x : Int32) (h : sx_H), sx_Ev S 45 50 [l0, l1, l2, some (.int x)] [] h = sx_Ev S 45 51 [l0, l1, l2, some (.int x)] [.int x] h) ∧
  (∀ (l0 l1 l2 l3 : Option Value) (s0 : Int32) (h : sx_H), sx_Ev S 45 51 [l0, l1, l2, l3] [.int s0] h = if s0 = 0 then sx_Ev S 45 58 [l0, l1, l2, l3] [] h else sx_Ev S 45 54 [l0, l1, l2, l3] [] h) ∧
  (∀ (l0 l1 l2 l3 : Option Value) (h : sx_H), sx_Ev S 45 54 [l0, l1, l2, l3] [] h = sx_Ev S 45 55 [l0, l1, l2, l3] [.int (sz (1))] h) ∧
  (∀ (l0 l1 l2 l3 : Option Value) (s0 : Int32) (h : sx_H), sx_Ev S 45 55 [l0, l1, l2, l3] [.int s0] h = sx_Ev S 45 59 [l0, l1, l2, l3] [.int s0] h) ∧
  (∀ (l0 l1 l2 l3 : Option Value) (h : sx_H), sx_Ev S 45 58 [l0, l1, l2, l3] [] h = sx_Ev S 45 59 [l0, l1, l2, l3] [.int (sz (0))] h) ∧
  (∀ (l0 l1 l2 l3 : Option Value) (s0 : Int32) (h : sx_H), narrow .boolean (.int s0) = .int s0 → sx_Ev S 45 59 [l0, l1, l2, l3] [.int s0] h = some (.inl (some (.int s0)), h)) := ⟨fun _ _ _ _ _ => sx_e_nx rfl rfl,
  fun _ _ _ _ _ _ => sx_e_getf rfl rfl (by decide) rfl,
  fun _ _ _ _ _ _ => sx_e_bi rfl (by decide +kernel) rfl,
  fun _ _ _ _ _ _ _ => sx_e_ine rfl (by decide) rfl,
  fun _ _ _ _ _ => sx_e_nx rfl rfl,
  fun _ _ _ _ _ _ => sx_e_eq rfl (by decide) rfl,
  fun _ _ _ _ _ => sx_e_nx rfl rfl,
  fun _ _ _ _ _ _ => sx_e_eq rfl (by decide) rfl,
  fun _ _ _ _ _ => sx_e_nx rfl rfl,
  fun _ _ _ _ _ _ => sx_e_goto rfl (by decide),
  fun _ _ _ _ _ => sx_e_nx rfl rfl,
  fun _ _ _ _ _ _ hv => sx_e_ret rfl rfl hv,
  fun _ _ _ _ _ => sx_e_nx rfl rfl,
  fun _ _ _ _ _ _ => sx_e_getf rfl rfl (by decide) rfl,
  fun _ _ _ _ _ _ => sx_e_bi rfl (by decide +kernel) rfl,
  fun _ _ _ _ _ _ _ => sx_e_ine rfl (by decide) rfl,
  fun _ _ _ _ _ => sx_e_nx rfl rfl,
  fun _ _ _ _ _ _ => sx_e_eq rfl (by decide) rfl,
  fun _ _ _ _ _ => sx_e_nx rfl rfl,
  fun _ _ _ _ _ _ => sx_e_eq rfl (by decide) rfl,
  fun _ _ _ _ _ => sx_e_nx rfl rfl,
  fun _ _ _ _ _ _ => sx_e_goto rfl (by decide),
  fun _ _ _ _ _ => sx_e_nx rfl rfl,
  fun _ _ _ _ _ _ hv => sx_e_ret rfl rfl hv,
  fun _ _ _ _ _ => sx_e_nx rfl rfl,
  fun _ _ _ _ _ _ => sx_e_eq rfl (by decide) rfl,
  fun _ _ _ _ _ => sx_e_nx rfl rfl,
  fun _ _ _ _ _ _ => sx_e_eq rfl (by decide) rfl,
  fun _ _ _ _ _ => sx_e_nx rfl rfl,
  fun _ _ _ _ _ _ => sx_e_goto rfl (by decide),
  fun _ _ _ _ _ => sx_e_nx rfl rfl,
  fun _ _ _ _ _ _ hv => sx_e_ret rfl rfl hv⟩
/-- 46: X5_countTwos (LBeadslant$Cloth;III)I -/
theorem c46_q (S : List Int32) : ∀ (a0 : Nat) (a1 : Int32) (a2 : Int32) (a3 : Int32) (h : sx_H), sx_Cl S 46 [.ref a0, .int a1, .int a2, .int a3] h = sx_Ev S 46 0 [some (.ref a0), some (.int a1), some (.int a2), some (.int a3), none, none, none, none, none] [] h := fun _ _ _ _ _ => rfl
theorem h46_14 (S : List Int32) : (∀ (l0 l1 l2 l3 l4 l5 l7 l8 : Option Value) (x : Int32) (h : sx_H), sx_Ev S 46 14 [l0, l1, l2, l3, l4, l5, some (.int x), l7, l8] [] h = sx_Ev S 46 16 [l0, l1, l2, l3, l4, l5, some (.int x), l7, l8] [.int x] h) := fun _ _ _ _ _ _ _ _ _ _ => sx_e_nx rfl rfl
theorem h46_23 (S : List Int32) : (∀ (l0 l1 l2 l3 l4 l5 l6 l8 : Option Value) (x : Int32) (h : sx_H), sx_Ev S 46 23 [l0, l1, l2, l3, l4, l5, l6, some (.int x), l8] [] h = sx_Ev S 46 25 [l0, l1, l2, l3, l4, l5, l6, some (.int x), l8] [.int x] h) := fun _ _ _ _ _ _ _ _ _ _ => sx_e_nx rfl rfl
theorem q46_0 (S : List Int32) : (∀ (l1 l2 l3 l4 l5 l6 l7 l8 : Option Value) (x : Nat) (h : sx_H), sx_Ev S 46 0 [some (.ref x), l1, l2, l3, l4, l5, l6, l7, l8] [] h = sx_Ev S 46 1 [some (.ref x), l1, l2, l3, l4, l5, l6, l7, l8] [.ref x] h) ∧
  (∀ (l0 l1 l3 l4 l5 l6 l7 l8 : Option Value) (s0 : Nat) (x : Int32) (h : sx_H), sx_Ev S 46 1 [l0, l1, some (.int x), l3, l4, l5, l6, l7, l8] [.ref s0] h = sx_Ev S 46 2 [l0, l1, some (.int x), l3, l4, l5, l6, l7, l8] [.int x, .ref s0] h) ∧
  (∀ (l0 l1 l2 l4 l5 l6 l7 l8 : Option Value) (s0 : Int32) (s1 : Nat) (x : Int32) (h : sx_H), sx_Ev S 46 2 [l0, l1, l2, some (.int x), l4, l5, l6, l7, l8] [.int s0, .ref s1] h = sx_Ev S 46 3 [l0, l1, l2, some (.int x), l4, l5, l6, l7, l8] [.int x, .int s0, .ref s1] h) ∧
  (∀ (l0 l1 l2 l3 l4 l5 l6 l7 l8 : Option Value) (s0 : Int32) (s1 : Int32) (s2 : Nat) (h : sx_H), sx_klass h s2 = some 0 → sx_Ev S 46 3 [l0, l1, l2, l3, l4, l5, l6, l7, l8] [.int s0, .int s1, .ref s2] h = sx_back S 46 3 [l0, l1, l2, l3, l4, l5, l6, l7, l8] [] (sx_Cl S 0 [.ref s2, .int s1, .int s0] h)) ∧
  (∀ (ls : sx_L) (st : List Value) (v : Value) (h : sx_H), sx_back S 46 3 ls st (some (.inl (some v), h)) = sx_Ev S 46 6 ls (v :: st) h) ∧
  (∀ (ls : sx_L) (st : List Value) (e : Nat) (h : sx_H), sx_back S 46 3 ls st (some (.inr e, h)) = some (.inr e, h)) ∧
  (∀ (l0 l1 l2 l3 l4 l5 l6 l7 l8 : Option Value) (s0 : Int32) (h : sx_H), sx_Ev S 46 6 [l0, l1, l2, l3, l4, l5, l6, l7, l8] [.int s0] h = sx_Ev S 46 8 [l0, l1, l2, l3, some (.int s0), l5, l6, l7, l8] [] h) ∧
  (∀ (l0 l1 l2 l3 l4 l5 l6 l7 l8 : Option Value) (h : sx_H), sx_Ev S 46 8 [l0, l1, l2, l3, l4, l5, l6, l7, l8] [] h = sx_Ev S 46 9 [l0, l1, l2, l3, l4, l5, l6, l7, l8] [.int (sz (0))] h) ∧
  (∀ (l0 l1 l2 l3 l4 l5 l6 l7 l8 : Option Value) (s0 : Int32) (h : sx_H), sx_Ev S 46 9 [l0, l1, l2, l3, l4, l5, l6, l7, l8] [.int s0] h = sx_Ev S 46 11 [l0, l1, l2, l3, l4, some (.int s0), l6, l7, l8] [] h) ∧
  (∀ (l0 l1 l2 l3 l4 l5 l6 l7 l8 : Option Value) (h : sx_H), sx_Ev S 46 11 [l0, l1, l2, l3, l4, l5, l6, l7, l8] [] h = sx_Ev S 46 12 [l0, l1, l2, l3, l4, l5, l6, l7, l8] [.int (sz (-1))] h) ∧
  (∀ (l0 l1 l2 l3 l4 l5 l6 l7 l8 : Option Value) (s0 : Int32) (h : sx_H), sx_Ev S 46 12 [l0, l1, l2, l3, l4, l5, l6, l7, l8] [.int s0] h = sx_Ev S 46 14 [l0, l1, l2, l3, l4, l5, some (.int s0), l7, l8] [] h) ∧
  (∀ (l0 l1 l2 l3 l4 l5 l6 l7 l8 : Option Value) (s0 : Int32) (h : sx_H), sx_Ev S 46 16 [l0, l1, l2, l3, l4, l5, l6, l7, l8] [.int s0] h = sx_Ev S 46 17 [l0, l1, l2, l3, l4, l5, l6, l7, l8] [.int (sz (1)), .int s0] h) ∧
  (∀ (l0 l1 l2 l3 l4 l5 l6 l7 l8 : Option Value) (s0 : Int32) (s1 : Int32) (h : sx_H), sx_Ev S 46 17 [l0, l1, l2, l3, l4, l5, l6, l7, l8] [.int s0, .int s1] h = if s0 < s1 then sx_Ev S 46 112 [l0, l1, l2, l3, l4, l5, l6, l7, l8] [] h else sx_Ev S 46 20 [l0, l1, l2, l3, l4, l5, l6, l7, l8] [] h) ∧
  (∀ (l0 l1 l2 l3 l4 l5 l6 l7 l8 : Option Value) (h : sx_H), sx_Ev S 46 20 [l0, l1, l2, l3, l4, l5, l6, l7, l8] [] h = sx_Ev S 46 21 [l0, l1, l2, l3, l4, l5, l6, l7, l8] [.int (sz (-1))] h) ∧
  (∀ (l0 l1 l2 l3 l4 l5 l6 l7 l8 : Option Value) (s0 : Int32) (h : sx_H), sx_Ev S 46 21 [l0, l1, l2, l3, l4, l5, l6, l7, l8] [.int s0] h = sx_Ev S 46 23 [l0, l1, l2, l3, l4, l5, l6, some (.int s0), l8] [] h) ∧
  (∀ (l0 l1 l2 l3 l4 l5 l6 l7 l8 : Option Value) (s0 : Int32) (h : sx_H), sx_Ev S 46 25 [l0, l1, l2, l3, l4, l5, l6, l7, l8] [.int s0] h = sx_Ev S 46 26 [l0, l1, l2, l3, l4, l5, l6, l7, l8] [.int (sz (1)), .int s0] h) ∧
  (∀ (l0 l1 l2 l3 l4 l5 l6 l7 l8 : Option Value) (s0 : Int32) (s1 : Int32) (h : sx_H), sx_Ev S 46 26 [l0, l1, l2, l3, l4, l5, l6, l7, l8] [.int s0, .int s1] h = if s0 < s1 then sx_Ev S 46 106 [l0, l1, l2, l3, l4, l5, l6, l7, l8] [] h else sx_Ev S 46 29 [l0, l1, l2, l3, l4, l5, l6, l7, l8] [] h) ∧
  (∀ (l0 l1 l2 l3 l5 l6 l7 l8 : Option Value) (x : Int32) (h : sx_H), sx_Ev S 46 29 [l0, l1, l2, l3, some (.int x), l5, l6, l7, l8] [] h = sx_Ev S 46 31 [l0, l1, l2, l3, some (.int x), l5, l6, l7, l8] [.int x] h) ∧
  (∀ (l0 l1 l2 l3 l4 l5 l6 l7 l8 : Option Value) (s0 : Int32) (h : sx_H), sx_Ev S 46 31 [l0, l1, l2, l3, l4, l5, l6, l7, l8] [.int s0] h = sx_Ev S 46 32 [l0, l1, l2, l3, l4, l5, l6, l7, l8] [.int (sz (-1)), .int s0] h) ∧
  (∀ (l0 l1 l2 l3 l4 l5 l6 l7 l8 : Option Value) (s0 : Int32) (s1 : Int32) (h : sx_H), sx_Ev S 46 32 [l0, l1, l2, l3, l4, l5, l6, l7, l8] [.int s0, .int s1] h = if s1 = s0 then sx_Ev S 46 100 [l0, l1, l2, l3, l4, l5, l6, l7, l8] [] h else sx_Ev S 46 35 [l0, l1, l2, l3, l4, l5, l6, l7, l8] [] h) ∧
  (∀ (l0 l1 l2 l3 l5 l6 l7 l8 : Option Value) (x : Int32) (h : sx_H), sx_Ev S 46 35 [l0, l1, l2, l3, some (.int x), l5, l6, l7, l8] [] h = sx_Ev S 46 37 [l0, l1, l2, l3, some (.int x), l5, l6, l7, l8] [.int x] h) ∧
  (∀ (l1 l2 l3 l4 l5 l6 l7 l8 : Option Value) (s0 : Int32) (x : Nat) (h : sx_H), sx_Ev S 46 37 [some (.ref x), l1, l2, l3, l4, l5, l6, l7, l8] [.int s0] h = sx_Ev S 46 38 [some (.ref x), l1, l2, l3, l4, l5, l6, l7, l8] [.ref x, .int s0] h) ∧
  (∀ (l0 l1 l3 l4 l5 l6 l7 l8 : Option Value) (s0 : Nat) (s1 : Int32) (x : Int32) (h : sx_H), sx_Ev S 46 38 [l0, l1, some (.int x), l3, l4, l5, l6, l7, l8] [.ref s0, .int s1] h = sx_Ev S 46 39 [l0, l1, some (.int x), l3, l4, l5, l6, l7, l8] [.int x, .ref s0, .int s1] h) ∧
  (∀ (l0 l1 l2 l3 l4 l5 l7 l8 : Option Value) (s0 : Int32) (s1 : Nat) (s2 : Int32) (x : Int32) (h : sx_H), sx_Ev S 46 39 [l0, l1, l2, l3, l4, l5, some (.int x), l7, l8] [.int s0, .ref s1, .int s2] h = sx_Ev S 46 41 [l0, l1, l2, l3, l4, l5, some (.int x), l7, l8] [.int x, .int s0, .ref s1, .int s2] h) ∧
  (∀ (l0 l1 l2 l3 l4 l5 l6 l7 l8 : Option Value) (s0 : Int32) (s1 : Int32) (s2 : Nat) (s3 : Int32) (h : sx_H), sx_Ev S 46 41 [l0, l1, l2, l3, l4, l5, l6, l7, l8] [.int s0, .int s1, .ref s2, .int s3] h = sx_Ev S 46 42 [l0, l1, l2, l3, l4, l5, l6, l7, l8] [.int (s1 + s0), .ref s2, .int s3] h) ∧
  (∀ (l0 l1 l2 l4 l5 l6 l7 l8 : Option Value) (s0 : Int32) (s1 : Nat) (s2 : Int32) (x : Int32) (h : sx_H), sx_Ev S 46 42 [l0, l1, l2, some (.int x), l4, l5, l6, l7, l8] [.int s0, .ref s1, .int s2] h = sx_Ev S 46 43 [l0, l1, l2, some (.int x), l4, l5, l6, l7, l8] [.int x, .int s0, .ref s1, .int s2] h) ∧
  (∀ (l0 l1 l2 l3 l4 l5 l6 l8 : Option Value) (s0 : Int32) (s1 : Int32) (s2 : Nat) (s3 : Int32) (x : Int32) (h : sx_H), sx_Ev S 46 43 [l0, l1, l2, l3, l4, l5, l6, some (.int x), l8] [.int s0, .int s1, .ref s2, .int s3] h = sx_Ev S 46 45 [l0, l1, l2, l3, l4, l5, l6, some (.int x), l8] [.int x, .int s0, .int s1, .ref s2, .int s3] h) ∧
  (∀ (l0 l1 l2 l3 l4 l5 l6 l7 l8 : Option Value) (s0 : Int32) (s1 : Int32) (s2 : Int32) (s3 : Nat) (s4 : Int32) (h : sx_H), sx_Ev S 46 45 [l0, l1, l2, l3, l4, l5, l6, l7, l8] [.int s0, .int s1, .int s2, .ref s3, .int s4] h = sx_Ev S 46 46 [l0, l1, l2, l3, l4, l5, l6, l7, l8] [.int (s1 + s0), .int s2, .ref s3, .int s4] h) ∧
  (∀ (l0 l1 l2 l3 l4 l5 l6 l7 l8 : Option Value) (s0 : Int32) (s1 : Int32) (s2 : Nat) (s3 : Int32) (h : sx_H), sx_klass h s2 = some 0 → sx_Ev S 46 46 [l0, l1, l2, l3, l4, l5, l6, l7, l8] [.int s0, .int s1, .ref s2, .int s3] h = sx_back S 46 46 [l0, l1, l2, l3, l4, l5, l6, l7, l8] [.int s3] (sx_Cl S 0 [.ref s2, .int s1, .int s0] h)) ∧
  (∀ (ls : sx_L) (st : List Value) (v : Value) (h : sx_H), sx_back S 46 46 ls st (some (.inl (some v), h)) = sx_Ev S 46 49 ls (v :: st) h) ∧
  (∀ (ls : sx_L) (st : List Value) (e : Nat) (h : sx_H), sx_back S 46 46 ls st (some (.inr e, h)) = some (.inr e, h)) ∧
  (∀ (l0 l1 l2 l3 l4 l5 l6 l7 l8 : Option Value) (s0 : Int32) (s1 : Int32) (h : sx_H), sx_Ev S 46 49 [l0, l1, l2, l3, l4, l5, l6, l7, l8] [.int s0, .int s1] h = if s1 = s0 then sx_Ev S 46 55 [l0, l1, l2, l3, l4, l5, l6, l7, l8] [] h else sx_Ev S 46 52 [l0, l1, l2, l3, l4, l5, l6, l7, l8] [] h) ∧
  (∀ (l0 l1 l2 l3 l4 l5 l6 l7 l8 : Option Value) (h : sx_H), sx_Ev S 46 52 [l0, l1, l2, l3, l4, l5, l6, l7, l8] [] h = sx_Ev S 46 100 [l0, l1, l2, l3, l4, l5, l6, l7, l8] [] h) ∧
  (∀ (l1 l2 l3 l4 l5 l6 l7 l8 : Option Value) (x : Nat) (h : sx_H), sx_Ev S 46 55 [some (.ref x), l1, l2, l3, l4, l5, l6, l7, l8] [] h = sx_Ev S 46 56 [some (.ref x), l1, l2, l3, l4, l5, l6, l7, l8] [.ref x] h) ∧
  (∀ (l0 l1 l3 l4 l5 l6 l7 l8 : Option Value) (s0 : Nat) (x : Int32) (h : sx_H), sx_Ev S 46 56 [l0, l1, some (.int x), l3, l4, l5, l6, l7, l8] [.ref s0] h = sx_Ev S 46 57 [l0, l1, some (.int x), l3, l4, l5, l6, l7, l8] [.int x, .ref s0] h) ∧
  (∀ (l0 l1 l2 l4 l5 l6 l7 l8 : Option Value) (s0 : Int32) (s1 : Nat) (x : Int32) (h : sx_H), sx_Ev S 46 57 [l0, l1, l2, some (.int x), l4, l5, l6, l7, l8] [.int s0, .ref s1] h = sx_Ev S 46 58 [l0, l1, l2, some (.int x), l4, l5, l6, l7, l8] [.int x, .int s0, .ref s1] h) ∧
  (∀ (l0 l1 l2 l3 l4 l5 l7 l8 : Option Value) (s0 : Int32) (s1 : Int32) (s2 : Nat) (x : Int32) (h : sx_H), sx_Ev S 46 58 [l0, l1, l2, l3, l4, l5, some (.int x), l7, l8] [.int s0, .int s1, .ref s2] h = sx_Ev S 46 60 [l0, l1, l2, l3, l4, l5, some (.int x), l7, l8] [.int x, .int s0, .int s1, .ref s2] h) ∧
  (∀ (l0 l1 l2 l3 l4 l5 l6 l8 : Option Value) (s0 : Int32) (s1 : Int32) (s2 : Int32) (s3 : Nat) (x : Int32) (h : sx_H), sx_Ev S 46 60 [l0, l1, l2, l3, l4, l5, l6, some (.int x), l8] [.int s0, .int s1, .int s2, .ref s3] h = sx_Ev S 46 62 [l0, l1, l2, l3, l4, l5, l6, some (.int x), l8] [.int x, .int s0, .int s1, .int s2, .ref s3] h) ∧
  (∀ (l0 l1 l2 l3 l4 l5 l6 l7 l8 : Option Value) (s0 : Int32) (s1 : Int32) (s2 : Int32) (s3 : Int32) (s4 : Nat) (h : sx_H), sx_Ev S 46 62 [l0, l1, l2, l3, l4, l5, l6, l7, l8] [.int s0, .int s1, .int s2, .int s3, .ref s4] h = sx_back S 46 62 [l0, l1, l2, l3, l4, l5, l6, l7, l8] [] (sx_Cl S 44 [.ref s4, .int s3, .int s2, .int s1, .int s0] h)) ∧
  (∀ (ls : sx_L) (st : List Value) (v : Value) (h : sx_H), sx_back S 46 62 ls st (some (.inl (some v), h)) = sx_Ev S 46 65 ls (v :: st) h) ∧
  (∀ (ls : sx_L) (st : List Value) (e : Nat) (h : sx_H), sx_back S 46 62 ls st (some (.inr e, h)) = some (.inr e, h)) ∧
  (∀ (l0 l1 l2 l3 l4 l5 l6 l7 l8 : Option Value) (s0 : Int32) (h : sx_H), sx_Ev S 46 65 [l0, l1, l2, l3, l4, l5, l6, l7, l8] [.int s0] h = sx_Ev S 46 67 [l0, l1, l2, l3, l4, l5, l6, l7, some (.int s0)] [] h) ∧
  (∀ (l0 l2 l3 l4 l5 l6 l7 l8 : Option Value) (x : Int32) (h : sx_H), sx_Ev S 46 67 [l0, some (.int x), l2, l3, l4, l5, l6, l7, l8] [] h = sx_Ev S 46 68 [l0, some (.int x), l2, l3, l4, l5, l6, l7, l8] [.int x] h) ∧
  (∀ (l0 l1 l2 l3 l4 l5 l6 l7 l8 : Option Value) (s0 : Int32) (h : sx_H), sx_Ev S 46 68 [l0, l1, l2, l3, l4, l5, l6, l7, l8] [.int s0] h = sx_Ev S 46 69 [l0, l1, l2, l3, l4, l5, l6, l7, l8] [.int (sz (1)), .int s0] h) ∧
  (∀ (l0 l1 l2 l3 l4 l5 l6 l7 l8 : Option Value) (s0 : Int32) (s1 : Int32) (h : sx_H), sx_Ev S 46 69 [l0, l1, l2, l3, l4, l5, l6, l7, l8] [.int s0, .int s1] h = sx_Ev S 46 70 [l0, l1, l2, l3, l4, l5, l6, l7, l8] [.int (s1 &&& s0)] h) ∧
  (∀ (l0 l1 l2 l3 l4 l5 l6 l7 l8 : Option Value) (s0 : Int32) (h : sx_H), sx_Ev S 46 70 [l0, l1, l2, l3, l4, l5, l6, l7, l8] [.int s0] h = if s0 = 0 then sx_Ev S 46 78 [l0, l1, l2, l3, l4, l5, l6, l7, l8] [] h else sx_Ev S 46 73 [l0, l1, l2, l3, l4, l5, l6, l7, l8] [] h) ∧
  (∀ (l0 l1 l2 l3 l4 l5 l6 l7 : Option Value) (x : Int32) (h : sx_H), sx_Ev S 46 73 [l0, l1, l2, l3, l4, l5, l6, l7, some (.int x)] [] h = sx_Ev S 46 75 [l0, l1, l2, l3, l4, l5, l6, l7, some (.int x)] [.int x] h) ∧
  (∀ (l0 l1 l2 l3 l4 l5 l6 l7 l8 : Option Value) (s0 : Int32) (h : sx_H), sx_Ev S 46 75 [l0, l1, l2, l3, l4, l5, l6, l7, l8] [.int s0] h = if s0 = 0 then sx_Ev S 46 78 [l0, l1, l2, l3, l4, l5, l6, l7, l8] [] h else sx_Ev S 46 97 [l0, l1, l2, l3, l4, l5, l6, l7, l8] [] h) ∧
  (∀ (l0 l2 l3 l4 l5 l6 l7 l8 : Option Value) (x : Int32) (h : sx_H), sx_Ev S 46 78 [l0, some (.int x), l2, l3, l4, l5, l6, l7, l8] [] h = sx_Ev S 46 79 [l0, some (.int x), l2, l3, l4, l5, l6, l7, l8] [.int x] h) ∧
  (∀ (l0 l1 l2 l3 l4 l5 l6 l7 l8 : Option Value) (s0 : Int32) (h : sx_H), sx_Ev S 46 79 [l0, l1, l2, l3, l4, l5, l6, l7, l8] [.int s0] h = sx_Ev S 46 80 [l0, l1, l2, l3, l4, l5, l6, l7, l8] [.int (sz (2)), .int s0] h) ∧
  (∀ (l0 l1 l2 l3 l4 l5 l6 l7 l8 : Option Value) (s0 : Int32) (s1 : Int32) (h : sx_H), sx_Ev S 46 80 [l0, l1, l2, l3, l4, l5, l6, l7, l8] [.int s0, .int s1] h = sx_Ev S 46 81 [l0, l1, l2, l3, l4, l5, l6, l7, l8] [.int (s1 &&& s0)] h) ∧
  (∀ (l0 l1 l2 l3 l4 l5 l6 l7 l8 : Option Value) (s0 : Int32) (h : sx_H), sx_Ev S 46 81 [l0, l1, l2, l3, l4, l5, l6, l7, l8] [.int s0] h = if s0 = 0 then sx_Ev S 46 100 [l0, l1, l2, l3, l4, l5, l6, l7, l8] [] h else sx_Ev S 46 84 [l0, l1, l2, l3, l4, l5, l6, l7, l8] [] h) ∧
  (∀ (l1 l2 l3 l4 l5 l6 l7 l8 : Option Value) (x : Nat) (h : sx_H), sx_Ev S 46 84 [some (.ref x), l1, l2, l3, l4, l5, l6, l7, l8] [] h = sx_Ev S 46 85 [some (.ref x), l1, l2, l3, l4, l5, l6, l7, l8] [.ref x] h) ∧
  (∀ (l0 l1 l2 l3 l4 l5 l6 l7 : Option Value) (s0 : Nat) (x : Int32) (h : sx_H), sx_Ev S 46 85 [l0, l1, l2, l3, l4, l5, l6, l7, some (.int x)] [.ref s0] h = sx_Ev S 46 87 [l0, l1, l2, l3, l4, l5, l6, l7, some (.int x)] [.int x, .ref s0] h) ∧
  (∀ (l0 l1 l2 l3 l4 l5 l7 l8 : Option Value) (s0 : Int32) (s1 : Nat) (x : Int32) (h : sx_H), sx_Ev S 46 87 [l0, l1, l2, l3, l4, l5, some (.int x), l7, l8] [.int s0, .ref s1] h = sx_Ev S 46 89 [l0, l1, l2, l3, l4, l5, some (.int x), l7, l8] [.int x, .int s0, .ref s1] h) ∧
  (∀ (l0 l1 l2 l3 l4 l5 l6 l8 : Option Value) (s0 : Int32) (s1 : Int32) (s2 : Nat) (x : Int32) (h : sx_H), sx_Ev S 46 89 [l0, l1, l2, l3, l4, l5, l6, some (.int x), l8] [.int s0, .int s1, .ref s2] h = sx_Ev S 46 91 [l0, l1, l2, l3, l4, l5, l6, some (.int x), l8] [.int x, .int s0, .int s1, .ref s2] h) ∧
  (∀ (l0 l1 l2 l3 l4 l5 l6 l7 l8 : Option Value) (s0 : Int32) (s1 : Int32) (s2 : Int32) (s3 : Nat) (h : sx_H), sx_Ev S 46 91 [l0, l1, l2, l3, l4, l5, l6, l7, l8] [.int s0, .int s1, .int s2, .ref s3] h = sx_back S 46 91 [l0, l1, l2, l3, l4, l5, l6, l7, l8] [] (sx_Cl S 45 [.ref s3, .int s2, .int s1, .int s0] h)) ∧
  (∀ (ls : sx_L) (st : List Value) (v : Value) (h : sx_H), sx_back S 46 91 ls st (some (.inl (some v), h)) = sx_Ev S 46 94 ls (v :: st) h) ∧
  (∀ (ls : sx_L) (st : List Value) (e : Nat) (h : sx_H), sx_back S 46 91 ls st (some (.inr e, h)) = some (.inr e, h)) ∧
  (∀ (l0 l1 l2 l3 l4 l5 l6 l7 l8 : Option Value) (s0 : Int32) (h : sx_H), sx_Ev S 46 94 [l0, l1, l2, l3, l4, l5, l6, l7, l8] [.int s0] h = if s0 = 0 then sx_Ev S 46 100 [l0, l1, l2, l3, l4, l5, l6, l7, l8] [] h else sx_Ev S 46 97 [l0, l1, l2, l3, l4, l5, l6, l7, l8] [] h) := ⟨fun _ _ _ _ _ _ _ _ _ _ => sx_e_nx rfl rfl,
  fun _ _ _ _ _ _ _ _ _ _ _ => sx_e_nx rfl rfl,
  fun _ _ _ _ _ _ _ _ _ _ _ _ => sx_e_nx rfl rfl,
  fun _ _ _ _ _ _ _ _ _ _ _ _ _ hv => sx_e_virt rfl rfl ⟨Nat.le_of_ble_eq_true rfl, Nat.le_of_ble_eq_true rfl, rfl⟩ rfl rfl rfl hv,
  fun _ _ _ _ => rfl,
  fun _ _ _ _ => rfl,
  fun _ _ _ _ _ _ _ _ _ _ _ => sx_e_nx rfl rfl,
  fun _ _ _ _ _ _ _ _ _ _ => sx_e_nx rfl rfl,
  fun _ _ _ _ _ _ _ _ _ _ _ => sx_e_nx rfl rfl,
  fun _ _ _ _ _ _ _ _ _ _ => sx_e_nx rfl rfl,
  fun _ _ _ _ _ _ _ _ _ _ _ => sx_e_nx rfl rfl,
  fun _ _ _ _ _ _ _ _ _ _ _ => sx_e_nx rfl rfl,
  fun _ _ _ _ _ _ _ _ _ _ _ _ => sx_e_igt rfl (by decide) rfl,
  fun _ _ _ _ _ _ _ _ _ _ => sx_e_nx rfl rfl,
  fun _ _ _ _ _ _ _ _ _ _ _ => sx_e_nx rfl rfl,
  fun _ _ _ _ _ _ _ _ _ _ _ => sx_e_nx rfl rfl,
  fun _ _ _ _ _ _ _ _ _ _ _ _ => sx_e_igt rfl (by decide) rfl,
  fun _ _ _ _ _ _ _ _ _ _ => sx_e_nx rfl rfl,
  fun _ _ _ _ _ _ _ _ _ _ _ => sx_e_nx rfl rfl,
  fun _ _ _ _ _ _ _ _ _ _ _ _ => sx_e_ieq rfl (by decide) rfl,
  fun _ _ _ _ _ _ _ _ _ _ => sx_e_nx rfl rfl,
  fun _ _ _ _ _ _ _ _ _ _ _ => sx_e_nx rfl rfl,
  fun _ _ _ _ _ _ _ _ _ _ _ _ => sx_e_nx rfl rfl,
  fun _ _ _ _ _ _ _ _ _ _ _ _ _ => sx_e_nx rfl rfl,
  fun _ _ _ _ _ _ _ _ _ _ _ _ _ _ => sx_e_nx rfl rfl,
  fun _ _ _ _ _ _ _ _ _ _ _ _ _ => sx_e_nx rfl rfl,
  fun _ _ _ _ _ _ _ _ _ _ _ _ _ _ => sx_e_nx rfl rfl,
  fun _ _ _ _ _ _ _ _ _ _ _ _ _ _ _ => sx_e_nx rfl rfl,
  fun _ _ _ _ _ _ _ _ _ _ _ _ _ _ hv => sx_e_virt rfl rfl ⟨Nat.le_of_ble_eq_true rfl, Nat.le_of_ble_eq_true rfl, rfl⟩ rfl rfl rfl hv,
  fun _ _ _ _ => rfl,
  fun _ _ _ _ => rfl,
  fun _ _ _ _ _ _ _ _ _ _ _ _ => sx_e_ieq rfl (by decide) rfl,
  fun _ _ _ _ _ _ _ _ _ _ => sx_e_goto rfl (by decide),
  fun _ _ _ _ _ _ _ _ _ _ => sx_e_nx rfl rfl,
  fun _ _ _ _ _ _ _ _ _ _ _ => sx_e_nx rfl rfl,
  fun _ _ _ _ _ _ _ _ _ _ _ _ => sx_e_nx rfl rfl,
  fun _ _ _ _ _ _ _ _ _ _ _ _ _ => sx_e_nx rfl rfl,
  fun _ _ _ _ _ _ _ _ _ _ _ _ _ _ => sx_e_nx rfl rfl,
  fun _ _ _ _ _ _ _ _ _ _ _ _ _ _ _ => sx_e_ca rfl rfl,
  fun _ _ _ _ => rfl,
  fun _ _ _ _ => rfl,
  fun _ _ _ _ _ _ _ _ _ _ _ => sx_e_nx rfl rfl,
  fun _ _ _ _ _ _ _ _ _ _ => sx_e_nx rfl rfl,
  fun _ _ _ _ _ _ _ _ _ _ _ => sx_e_nx rfl rfl,
  fun _ _ _ _ _ _ _ _ _ _ _ _ => sx_e_nx rfl rfl,
  fun _ _ _ _ _ _ _ _ _ _ _ => sx_e_eq rfl (by decide) rfl,
  fun _ _ _ _ _ _ _ _ _ _ => sx_e_nx rfl rfl,
  fun _ _ _ _ _ _ _ _ _ _ _ => sx_e_ne rfl (by decide) rfl,
  fun _ _ _ _ _ _ _ _ _ _ => sx_e_nx rfl rfl,
  fun _ _ _ _ _ _ _ _ _ _ _ => sx_e_nx rfl rfl,
  fun _ _ _ _ _ _ _ _ _ _ _ _ => sx_e_nx rfl rfl,
  fun _ _ _ _ _ _ _ _ _ _ _ => sx_e_eq rfl (by decide) rfl,
  fun _ _ _ _ _ _ _ _ _ _ => sx_e_nx rfl rfl,
  fun _ _ _ _ _ _ _ _ _ _ _ => sx_e_nx rfl rfl,
  fun _ _ _ _ _ _ _ _ _ _ _ _ => sx_e_nx rfl rfl,
  fun _ _ _ _ _ _ _ _ _ _ _ _ _ => sx_e_nx rfl rfl,
  fun _ _ _ _ _ _ _ _ _ _ _ _ _ _ => sx_e_ca rfl rfl,
  fun _ _ _ _ => rfl,
  fun _ _ _ _ => rfl,
  fun _ _ _ _ _ _ _ _ _ _ _ => sx_e_eq rfl (by decide) rfl⟩
theorem q46_1 (S : List Int32) : (∀ (l0 l1 l2 l3 l4 l6 l7 l8 : Option Value) (x : Int32) (h : sx_H), sx_Ev S 46 97 [l0, l1, l2, l3, l4, some (.int x), l6, l7, l8] [] h = sx_Ev S 46 100 [l0, l1, l2, l3, l4, some (.int (x + sz (1))), l6, l7, l8] [] h) ∧
  (∀ (l0 l1 l2 l3 l4 l5 l6 l8 : Option Value) (x : Int32) (h : sx_H), sx_Ev S 46 100 [l0, l1, l2, l3, l4, l5, l6, some (.int x), l8] [] h = sx_Ev S 46 103 [l0, l1, l2, l3, l4, l5, l6, some (.int (x + sz (1))), l8] [] h) ∧
  (∀ (l0 l1 l2 l3 l4 l5 l6 l7 l8 : Option Value) (h : sx_H), sx_Ev S 46 103 [l0, l1, l2, l3, l4, l5, l6, l7, l8] [] h = sx_Ev S 46 23 [l0, l1, l2, l3, l4, l5, l6, l7, l8] [] h) ∧
  (∀ (l0 l1 l2 l3 l4 l5 l7 l8 : Option Value) (x : Int32) (h : sx_H), sx_Ev S 46 106 [l0, l1, l2, l3, l4, l5, some (.int x), l7, l8] [] h = sx_Ev S 46 109 [l0, l1, l2, l3, l4, l5, some (.int (x + sz (1))), l7, l8] [] h) ∧
  (∀ (l0 l1 l2 l3 l4 l5 l6 l7 l8 : Option Value) (h : sx_H), sx_Ev S 46 109 [l0, l1, l2, l3, l4, l5, l6, l7, l8] [] h = sx_Ev S 46 14 [l0, l1, l2, l3, l4, l5, l6, l7, l8] [] h) ∧
  (∀ (l0 l1 l2 l3 l4 l6 l7 l8 : Option Value) (x : Int32) (h : sx_H), sx_Ev S 46 112 [l0, l1, l2, l3, l4, some (.int x), l6, l7, l8] [] h = sx_Ev S 46 114 [l0, l1, l2, l3, l4, some (.int x), l6, l7, l8] [.int x] h) ∧
  (∀ (l0 l1 l2 l3 l4 l5 l6 l7 l8 : Option Value) (s0 : Int32) (h : sx_H), sx_Ev S 46 114 [l0, l1, l2, l3, l4, l5, l6, l7, l8] [.int s0] h = some (.inl (some (.int s0)), h)) := ⟨fun _ _ _ _ _ _ _ _ _ _ => sx_e_nx rfl rfl,
  fun _ _ _ _ _ _ _ _ _ _ => sx_e_nx rfl rfl,
  fun _ _ _ _ _ _ _ _ _ _ => sx_e_goto rfl (by decide),
  fun _ _ _ _ _ _ _ _ _ _ => sx_e_nx rfl rfl,
  fun _ _ _ _ _ _ _ _ _ _ => sx_e_goto rfl (by decide),
  fun _ _ _ _ _ _ _ _ _ _ => sx_e_nx rfl rfl,
  fun _ _ _ _ _ _ _ _ _ _ _ => sx_e_ret rfl rfl rfl⟩
/-- 47: X5_countBreaches (LBeadslant$Cloth;I)I -/
theorem c47_q (S : List Int32) : ∀ (a0 : Nat) (a1 : Int32) (h : sx_H), sx_Cl S 47 [.ref a0, .int a1] h = sx_Ev S 47 0 [some (.ref a0), some (.int a1), none, none, none] [] h := fun _ _ _ => rfl
theorem h47_4 (S : List Int32) : (∀ (l0 l1 l2 l4 : Option Value) (x : Int32) (h : sx_H), sx_Ev S 47 4 [l0, l1, l2, some (.int x), l4] [] h = sx_Ev S 47 5 [l0, l1, l2, some (.int x), l4] [.int x] h) := fun _ _ _ _ _ _ => sx_e_nx rfl rfl
theorem h47_15 (S : List Int32) : (∀ (l0 l1 l2 l3 : Option Value) (x : Int32) (h : sx_H), sx_Ev S 47 15 [l0, l1, l2, l3, some (.int x)] [] h = sx_Ev S 47 17 [l0, l1, l2, l3, some (.int x)] [.int x] h) := fun _ _ _ _ _ _ => sx_e_nx rfl rfl
theorem q47_0 (S : List Int32) : (∀ (l0 l1 l2 l3 l4 : Option Value) (h : sx_H), sx_Ev S 47 0 [l0, l1, l2, l3, l4] [] h = sx_Ev S 47 1 [l0, l1, l2, l3, l4] [.int (sz (0))] h) ∧
  (∀ (l0 l1 l2 l3 l4 : Option Value) (s0 : Int32) (h : sx_H), sx_Ev S 47 1 [l0, l1, l2, l3, l4] [.int s0] h = sx_Ev S 47 2 [l0, l1, some (.int s0), l3, l4] [] h) ∧
  (∀ (l0 l1 l2 l3 l4 : Option Value) (h : sx_H), sx_Ev S 47 2 [l0, l1, l2, l3, l4] [] h = sx_Ev S 47 3 [l0, l1, l2, l3, l4] [.int (sz (0))] h) ∧
  (∀ (l0 l1 l2 l3 l4 : Option Value) (s0 : Int32) (h : sx_H), sx_Ev S 47 3 [l0, l1, l2, l3, l4] [.int s0] h = sx_Ev S 47 4 [l0, l1, l2, some (.int s0), l4] [] h) ∧
  (∀ (l1 l2 l3 l4 : Option Value) (s0 : Int32) (x : Nat) (h : sx_H), sx_Ev S 47 5 [some (.ref x), l1, l2, l3, l4] [.int s0] h = sx_Ev S 47 6 [some (.ref x), l1, l2, l3, l4] [.ref x, .int s0] h) ∧
  (∀ (l0 l1 l2 l3 l4 : Option Value) (s0 : Nat) (s1 : Int32) (h : sx_H), sx_Ev S 47 6 [l0, l1, l2, l3, l4] [.ref s0, .int s1] h = (sx_fld h s0 0 3).bind fun v => sx_Ev S 47 9 [l0, l1, l2, l3, l4] [v, .int s1] h) ∧
  (∀ (l0 l1 l2 l3 l4 : Option Value) (s0 : Int32) (s1 : Int32) (h : sx_H), sx_Ev S 47 9 [l0, l1, l2, l3, l4] [.int s0, .int s1] h = if s1 < s0 then sx_Ev S 47 12 [l0, l1, l2, l3, l4] [] h else sx_Ev S 47 100 [l0, l1, l2, l3, l4] [] h) ∧
  (∀ (l0 l1 l2 l3 l4 : Option Value) (h : sx_H), sx_Ev S 47 12 [l0, l1, l2, l3, l4] [] h = sx_Ev S 47 13 [l0, l1, l2, l3, l4] [.int (sz (0))] h) ∧
  (∀ (l0 l1 l2 l3 l4 : Option Value) (s0 : Int32) (h : sx_H), sx_Ev S 47 13 [l0, l1, l2, l3, l4] [.int s0] h = sx_Ev S 47 15 [l0, l1, l2, l3, some (.int s0)] [] h) ∧
  (∀ (l1 l2 l3 l4 : Option Value) (s0 : Int32) (x : Nat) (h : sx_H), sx_Ev S 47 17 [some (.ref x), l1, l2, l3, l4] [.int s0] h = sx_Ev S 47 18 [some (.ref x), l1, l2, l3, l4] [.ref x, .int s0] h) ∧
  (∀ (l0 l1 l2 l3 l4 : Option Value) (s0 : Nat) (s1 : Int32) (h : sx_H), sx_Ev S 47 18 [l0, l1, l2, l3, l4] [.ref s0, .int s1] h = (sx_fld h s0 0 2).bind fun v => sx_Ev S 47 21 [l0, l1, l2, l3, l4] [v, .int s1] h) ∧
  (∀ (l0 l1 l2 l3 l4 : Option Value) (s0 : Int32) (s1 : Int32) (h : sx_H), sx_Ev S 47 21 [l0, l1, l2, l3, l4] [.int s0, .int s1] h = if s1 < s0 then sx_Ev S 47 24 [l0, l1, l2, l3, l4] [] h else sx_Ev S 47 94 [l0, l1, l2, l3, l4] [] h) ∧
  (∀ (l0 l2 l3 l4 : Option Value) (x : Int32) (h : sx_H), sx_Ev S 47 24 [l0, some (.int x), l2, l3, l4] [] h = sx_Ev S 47 25 [l0, some (.int x), l2, l3, l4] [.int x] h) ∧
  (∀ (l0 l1 l2 l3 l4 : Option Value) (s0 : Int32) (h : sx_H), sx_Ev S 47 25 [l0, l1, l2, l3, l4] [.int s0] h = sx_Ev S 47 26 [l0, l1, l2, l3, l4] [.int (sz (4)), .int s0] h) ∧
  (∀ (l0 l1 l2 l3 l4 : Option Value) (s0 : Int32) (s1 : Int32) (h : sx_H), sx_Ev S 47 26 [l0, l1, l2, l3, l4] [.int s0, .int s1] h = if s1 = s0 then sx_Ev S 47 29 [l0, l1, l2, l3, l4] [] h else sx_Ev S 47 50 [l0, l1, l2, l3, l4] [] h) ∧
  (∀ (l0 l1 l3 l4 : Option Value) (x : Int32) (h : sx_H), sx_Ev S 47 29 [l0, l1, some (.int x), l3, l4] [] h = sx_Ev S 47 30 [l0, l1, some (.int x), l3, l4] [.int x] h) ∧
  (∀ (l1 l2 l3 l4 : Option Value) (s0 : Int32) (x : Nat) (h : sx_H), sx_Ev S 47 30 [some (.ref x), l1, l2, l3, l4] [.int s0] h = sx_Ev S 47 31 [some (.ref x), l1, l2, l3, l4] [.ref x, .int s0] h) ∧
  (∀ (l0 l1 l2 l4 : Option Value) (s0 : Nat) (s1 : Int32) (x : Int32) (h : sx_H), sx_Ev S 47 31 [l0, l1, l2, some (.int x), l4] [.ref s0, .int s1] h = sx_Ev S 47 32 [l0, l1, l2, some (.int x), l4] [.int x, .ref s0, .int s1] h) ∧
  (∀ (l0 l1 l2 l3 : Option Value) (s0 : Int32) (s1 : Nat) (s2 : Int32) (x : Int32) (h : sx_H), sx_Ev S 47 32 [l0, l1, l2, l3, some (.int x)] [.int s0, .ref s1, .int s2] h = sx_Ev S 47 34 [l0, l1, l2, l3, some (.int x)] [.int x, .int s0, .ref s1, .int s2] h) ∧
  (∀ (l0 l1 l2 l3 l4 : Option Value) (s0 : Int32) (s1 : Int32) (s2 : Nat) (s3 : Int32) (h : sx_H), sx_Ev S 47 34 [l0, l1, l2, l3, l4] [.int s0, .int s1, .ref s2, .int s3] h = sx_back S 47 34 [l0, l1, l2, l3, l4] [.int s3] (sx_Cl S 42 [.ref s2, .int s1, .int s0] h)) ∧
  (∀ (ls : sx_L) (st : List Value) (v : Value) (h : sx_H), sx_back S 47 34 ls st (some (.inl (some v), h)) = sx_Ev S 47 37 ls (v :: st) h) ∧
  (∀ (ls : sx_L) (st : List Value) (e : Nat) (h : sx_H), sx_back S 47 34 ls st (some (.inr e, h)) = some (.inr e, h)) ∧
  (∀ (l0 l1 l2 l3 l4 : Option Value) (s0 : Int32) (s1 : Int32) (h : sx_H), sx_Ev S 47 37 [l0, l1, l2, l3, l4] [.int s0, .int s1] h = if s0 = 0 then sx_Ev S 47 44 [l0, l1, l2, l3, l4] [.int s1] h else sx_Ev S 47 40 [l0, l1, l2, l3, l4] [.int s1] h) ∧
  (∀ (l0 l1 l2 l3 l4 : Option Value) (s0 : Int32) (h : sx_H), sx_Ev S 47 40 [l0, l1, l2, l3, l4] [.int s0] h = sx_Ev S 47 41 [l0, l1, l2, l3, l4] [.int (sz (1)), .int s0] h) ∧
  (∀ (l0 l1 l2 l3 l4 : Option Value) (s0 : Int32) (s1 : Int32) (h : sx_H), sx_Ev S 47 41 [l0, l1, l2, l3, l4] [.int s0, .int s1] h = sx_Ev S 47 45 [l0, l1, l2, l3, l4] [.int s0, .int s1] h) ∧
  (∀ (l0 l1 l2 l3 l4 : Option Value) (s0 : Int32) (h : sx_H), sx_Ev S 47 44 [l0, l1, l2, l3, l4] [.int s0] h = sx_Ev S 47 45 [l0, l1, l2, l3, l4] [.int (sz (0)), .int s0] h) ∧
  (∀ (l0 l1 l2 l3 l4 : Option Value) (s0 : Int32) (s1 : Int32) (h : sx_H), sx_Ev S 47 45 [l0, l1, l2, l3, l4] [.int s0, .int s1] h = sx_Ev S 47 46 [l0, l1, l2, l3, l4] [.int (s1 + s0)] h) ∧
  (∀ (l0 l1 l2 l3 l4 : Option Value) (s0 : Int32) (h : sx_H), sx_Ev S 47 46 [l0, l1, l2, l3, l4] [.int s0] h = sx_Ev S 47 47 [l0, l1, some (.int s0), l3, l4] [] h) ∧
  (∀ (l0 l1 l2 l3 l4 : Option Value) (h : sx_H), sx_Ev S 47 47 [l0, l1, l2, l3, l4] [] h = sx_Ev S 47 88 [l0, l1, l2, l3, l4] [] h) ∧
  (∀ (l0 l2 l3 l4 : Option Value) (x : Int32) (h : sx_H), sx_Ev S 47 50 [l0, some (.int x), l2, l3, l4] [] h = sx_Ev S 47 51 [l0, some (.int x), l2, l3, l4] [.int x] h) ∧
  (∀ (l0 l1 l2 l3 l4 : Option Value) (s0 : Int32) (h : sx_H), sx_Ev S 47 51 [l0, l1, l2, l3, l4] [.int s0] h = sx_Ev S 47 53 [l0, l1, l2, l3, l4] [.int (sz (8)), .int s0] h) ∧
  (∀ (l0 l1 l2 l3 l4 : Option Value) (s0 : Int32) (s1 : Int32) (h : sx_H), sx_Ev S 47 53 [l0, l1, l2, l3, l4] [.int s0, .int s1] h = if s1 = s0 then sx_Ev S 47 56 [l0, l1, l2, l3, l4] [] h else sx_Ev S 47 77 [l0, l1, l2, l3, l4] [] h) ∧
  (∀ (l0 l1 l3 l4 : Option Value) (x : Int32) (h : sx_H), sx_Ev S 47 56 [l0, l1, some (.int x), l3, l4] [] h = sx_Ev S 47 57 [l0, l1, some (.int x), l3, l4] [.int x] h) ∧
  (∀ (l1 l2 l3 l4 : Option Value) (s0 : Int32) (x : Nat) (h : sx_H), sx_Ev S 47 57 [some (.ref x), l1, l2, l3, l4] [.int s0] h = sx_Ev S 47 58 [some (.ref x), l1, l2, l3, l4] [.ref x, .int s0] h) ∧
  (∀ (l0 l1 l2 l4 : Option Value) (s0 : Nat) (s1 : Int32) (x : Int32) (h : sx_H), sx_Ev S 47 58 [l0, l1, l2, some (.int x), l4] [.ref s0, .int s1] h = sx_Ev S 47 59 [l0, l1, l2, some (.int x), l4] [.int x, .ref s0, .int s1] h) ∧
  (∀ (l0 l1 l2 l3 : Option Value) (s0 : Int32) (s1 : Nat) (s2 : Int32) (x : Int32) (h : sx_H), sx_Ev S 47 59 [l0, l1, l2, l3, some (.int x)] [.int s0, .ref s1, .int s2] h = sx_Ev S 47 61 [l0, l1, l2, l3, some (.int x)] [.int x, .int s0, .ref s1, .int s2] h) ∧
  (∀ (l0 l1 l2 l3 l4 : Option Value) (s0 : Int32) (s1 : Int32) (s2 : Nat) (s3 : Int32) (h : sx_H), sx_Ev S 47 61 [l0, l1, l2, l3, l4] [.int s0, .int s1, .ref s2, .int s3] h = sx_back S 47 61 [l0, l1, l2, l3, l4] [.int s3] (sx_Cl S 43 [.ref s2, .int s1, .int s0] h)) ∧
  (∀ (ls : sx_L) (st : List Value) (v : Value) (h : sx_H), sx_back S 47 61 ls st (some (.inl (some v), h)) = sx_Ev S 47 64 ls (v :: st) h) ∧
  (∀ (ls : sx_L) (st : List Value) (e : Nat) (h : sx_H), sx_back S 47 61 ls st (some (.inr e, h)) = some (.inr e, h)) ∧
  (∀ (l0 l1 l2 l3 l4 : Option Value) (s0 : Int32) (s1 : Int32) (h : sx_H), sx_Ev S 47 64 [l0, l1, l2, l3, l4] [.int s0, .int s1] h = if s0 = 0 then sx_Ev S 47 71 [l0, l1, l2, l3, l4] [.int s1] h else sx_Ev S 47 67 [l0, l1, l2, l3, l4] [.int s1] h) ∧
  (∀ (l0 l1 l2 l3 l4 : Option Value) (s0 : Int32) (h : sx_H), sx_Ev S 47 67 [l0, l1, l2, l3, l4] [.int s0] h = sx_Ev S 47 68 [l0, l1, l2, l3, l4] [.int (sz (1)), .int s0] h) ∧
  (∀ (l0 l1 l2 l3 l4 : Option Value) (s0 : Int32) (s1 : Int32) (h : sx_H), sx_Ev S 47 68 [l0, l1, l2, l3, l4] [.int s0, .int s1] h = sx_Ev S 47 72 [l0, l1, l2, l3, l4] [.int s0, .int s1] h) ∧
  (∀ (l0 l1 l2 l3 l4 : Option Value) (s0 : Int32) (h : sx_H), sx_Ev S 47 71 [l0, l1, l2, l3, l4] [.int s0] h = sx_Ev S 47 72 [l0, l1, l2, l3, l4] [.int (sz (0)), .int s0] h) ∧
  (∀ (l0 l1 l2 l3 l4 : Option Value) (s0 : Int32) (s1 : Int32) (h : sx_H), sx_Ev S 47 72 [l0, l1, l2, l3, l4] [.int s0, .int s1] h = sx_Ev S 47 73 [l0, l1, l2, l3, l4] [.int (s1 + s0)] h) ∧
  (∀ (l0 l1 l2 l3 l4 : Option Value) (s0 : Int32) (h : sx_H), sx_Ev S 47 73 [l0, l1, l2, l3, l4] [.int s0] h = sx_Ev S 47 74 [l0, l1, some (.int s0), l3, l4] [] h) ∧
  (∀ (l0 l1 l2 l3 l4 : Option Value) (h : sx_H), sx_Ev S 47 74 [l0, l1, l2, l3, l4] [] h = sx_Ev S 47 88 [l0, l1, l2, l3, l4] [] h) ∧
  (∀ (l0 l1 l3 l4 : Option Value) (x : Int32) (h : sx_H), sx_Ev S 47 77 [l0, l1, some (.int x), l3, l4] [] h = sx_Ev S 47 78 [l0, l1, some (.int x), l3, l4] [.int x] h) ∧
  (∀ (l1 l2 l3 l4 : Option Value) (s0 : Int32) (x : Nat) (h : sx_H), sx_Ev S 47 78 [some (.ref x), l1, l2, l3, l4] [.int s0] h = sx_Ev S 47 79 [some (.ref x), l1, l2, l3, l4] [.ref x, .int s0] h) ∧
  (∀ (l0 l2 l3 l4 : Option Value) (s0 : Nat) (s1 : Int32) (x : Int32) (h : sx_H), sx_Ev S 47 79 [l0, some (.int x), l2, l3, l4] [.ref s0, .int s1] h = sx_Ev S 47 80 [l0, some (.int x), l2, l3, l4] [.int x, .ref s0, .int s1] h) ∧
  (∀ (l0 l1 l2 l4 : Option Value) (s0 : Int32) (s1 : Nat) (s2 : Int32) (x : Int32) (h : sx_H), sx_Ev S 47 80 [l0, l1, l2, some (.int x), l4] [.int s0, .ref s1, .int s2] h = sx_Ev S 47 81 [l0, l1, l2, some (.int x), l4] [.int x, .int s0, .ref s1, .int s2] h) ∧
  (∀ (l0 l1 l2 l3 : Option Value) (s0 : Int32) (s1 : Int32) (s2 : Nat) (s3 : Int32) (x : Int32) (h : sx_H), sx_Ev S 47 81 [l0, l1, l2, l3, some (.int x)] [.int s0, .int s1, .ref s2, .int s3] h = sx_Ev S 47 83 [l0, l1, l2, l3, some (.int x)] [.int x, .int s0, .int s1, .ref s2, .int s3] h) ∧
  (∀ (l0 l1 l2 l3 l4 : Option Value) (s0 : Int32) (s1 : Int32) (s2 : Int32) (s3 : Nat) (s4 : Int32) (h : sx_H), sx_Ev S 47 83 [l0, l1, l2, l3, l4] [.int s0, .int s1, .int s2, .ref s3, .int s4] h = sx_back S 47 83 [l0, l1, l2, l3, l4] [.int s4] (sx_Cl S 46 [.ref s3, .int s2, .int s1, .int s0] h)) ∧
  (∀ (ls : sx_L) (st : List Value) (v : Value) (h : sx_H), sx_back S 47 83 ls st (some (.inl (some v), h)) = sx_Ev S 47 86 ls (v :: st) h) ∧
  (∀ (ls : sx_L) (st : List Value) (e : Nat) (h : sx_H), sx_back S 47 83 ls st (some (.inr e, h)) = some (.inr e, h)) ∧
  (∀ (l0 l1 l2 l3 l4 : Option Value) (s0 : Int32) (s1 : Int32) (h : sx_H), sx_Ev S 47 86 [l0, l1, l2, l3, l4] [.int s0, .int s1] h = sx_Ev S 47 87 [l0, l1, l2, l3, l4] [.int (s1 + s0)] h) ∧
  (∀ (l0 l1 l2 l3 l4 : Option Value) (s0 : Int32) (h : sx_H), sx_Ev S 47 87 [l0, l1, l2, l3, l4] [.int s0] h = sx_Ev S 47 88 [l0, l1, some (.int s0), l3, l4] [] h) ∧
  (∀ (l0 l1 l2 l3 : Option Value) (x : Int32) (h : sx_H), sx_Ev S 47 88 [l0, l1, l2, l3, some (.int x)] [] h = sx_Ev S 47 91 [l0, l1, l2, l3, some (.int (x + sz (1)))] [] h) ∧
  (∀ (l0 l1 l2 l3 l4 : Option Value) (h : sx_H), sx_Ev S 47 91 [l0, l1, l2, l3, l4] [] h = sx_Ev S 47 15 [l0, l1, l2, l3, l4] [] h) ∧
  (∀ (l0 l1 l2 l4 : Option Value) (x : Int32) (h : sx_H), sx_Ev S 47 94 [l0, l1, l2, some (.int x), l4] [] h = sx_Ev S 47 97 [l0, l1, l2, some (.int (x + sz (1))), l4] [] h) ∧
  (∀ (l0 l1 l2 l3 l4 : Option Value) (h : sx_H), sx_Ev S 47 97 [l0, l1, l2, l3, l4] [] h = sx_Ev S 47 4 [l0, l1, l2, l3, l4] [] h) := ⟨fun _ _ _ _ _ _ => sx_e_nx rfl rfl,
  fun _ _ _ _ _ _ _ => sx_e_nx rfl rfl,
  fun _ _ _ _ _ _ => sx_e_nx rfl rfl,
  fun _ _ _ _ _ _ _ => sx_e_nx rfl rfl,
  fun _ _ _ _ _ _ _ => sx_e_nx rfl rfl,
  fun _ _ _ _ _ _ _ _ => sx_e_getf rfl rfl (by decide) rfl,
  fun _ _ _ _ _ _ _ _ => sx_e_ige rfl (by decide) rfl,
  fun _ _ _ _ _ _ => sx_e_nx rfl rfl,
  fun _ _ _ _ _ _ _ => sx_e_nx rfl rfl,
  fun _ _ _ _ _ _ _ => sx_e_nx rfl rfl,
  fun _ _ _ _ _ _ _ _ => sx_e_getf rfl rfl (by decide) rfl,
  fun _ _ _ _ _ _ _ _ => sx_e_ige rfl (by decide) rfl,
  fun _ _ _ _ _ _ => sx_e_nx rfl rfl,
  fun _ _ _ _ _ _ _ => sx_e_nx rfl rfl,
  fun _ _ _ _ _ _ _ _ => sx_e_ine rfl (by decide) rfl,
  fun _ _ _ _ _ _ => sx_e_nx rfl rfl,
  fun _ _ _ _ _ _ _ => sx_e_nx rfl rfl,
  fun _ _ _ _ _ _ _ _ => sx_e_nx rfl rfl,
  fun _ _ _ _ _ _ _ _ _ => sx_e_nx rfl rfl,
  fun _ _ _ _ _ _ _ _ _ _ => sx_e_ca rfl rfl,
  fun _ _ _ _ => rfl,
  fun _ _ _ _ => rfl,
  fun _ _ _ _ _ _ _ _ => sx_e_eq rfl (by decide) rfl,
  fun _ _ _ _ _ _ _ => sx_e_nx rfl rfl,
  fun _ _ _ _ _ _ _ _ => sx_e_goto rfl (by decide),
  fun _ _ _ _ _ _ _ => sx_e_nx rfl rfl,
  fun _ _ _ _ _ _ _ _ => sx_e_nx rfl rfl,
  fun _ _ _ _ _ _ _ => sx_e_nx rfl rfl,
  fun _ _ _ _ _ _ => sx_e_goto rfl (by decide),
  fun _ _ _ _ _ _ => sx_e_nx rfl rfl,
  fun _ _ _ _ _ _ _ => sx_e_bi rfl (by decide +kernel) rfl,
  fun _ _ _ _ _ _ _ _ => sx_e_ine rfl (by decide) rfl,
  fun _ _ _ _ _ _ => sx_e_nx rfl rfl,
  fun _ _ _ _ _ _ _ => sx_e_nx rfl rfl,
  fun _ _ _ _ _ _ _ _ => sx_e_nx rfl rfl,
  fun _ _ _ _ _ _ _ _ _ => sx_e_nx rfl rfl,
  fun _ _ _ _ _ _ _ _ _ _ => sx_e_ca rfl rfl,
  fun _ _ _ _ => rfl,
  fun _ _ _ _ => rfl,
  fun _ _ _ _ _ _ _ _ => sx_e_eq rfl (by decide) rfl,
  fun _ _ _ _ _ _ _ => sx_e_nx rfl rfl,
  fun _ _ _ _ _ _ _ _ => sx_e_goto rfl (by decide),
  fun _ _ _ _ _ _ _ => sx_e_nx rfl rfl,
  fun _ _ _ _ _ _ _ _ => sx_e_nx rfl rfl,
  fun _ _ _ _ _ _ _ => sx_e_nx rfl rfl,
  fun _ _ _ _ _ _ => sx_e_goto rfl (by decide),
  fun _ _ _ _ _ _ => sx_e_nx rfl rfl,
  fun _ _ _ _ _ _ _ => sx_e_nx rfl rfl,
  fun _ _ _ _ _ _ _ _ => sx_e_nx rfl rfl,
  fun _ _ _ _ _ _ _ _ _ => sx_e_nx rfl rfl,
  fun _ _ _ _ _ _ _ _ _ _ => sx_e_nx rfl rfl,
  fun _ _ _ _ _ _ _ _ _ _ _ => sx_e_ca rfl rfl,
  fun _ _ _ _ => rfl,
  fun _ _ _ _ => rfl,
  fun _ _ _ _ _ _ _ _ => sx_e_nx rfl rfl,
  fun _ _ _ _ _ _ _ => sx_e_nx rfl rfl,
  fun _ _ _ _ _ _ => sx_e_nx rfl rfl,
  fun _ _ _ _ _ _ => sx_e_goto rfl (by decide),
  fun _ _ _ _ _ _ => sx_e_nx rfl rfl,
  fun _ _ _ _ _ _ => sx_e_goto rfl (by decide)⟩
theorem q47_1 (S : List Int32) : (∀ (l0 l2 l3 l4 : Option Value) (x : Int32) (h : sx_H), sx_Ev S 47 100 [l0, some (.int x), l2, l3, l4] [] h = sx_Ev S 47 101 [l0, some (.int x), l2, l3, l4] [.int x] h) ∧
  (∀ (l0 l1 l2 l3 l4 : Option Value) (s0 : Int32) (h : sx_H), sx_Ev S 47 101 [l0, l1, l2, l3, l4] [.int s0] h = sx_Ev S 47 102 [l0, l1, l2, l3, l4] [.int (sz (1)), .int s0] h) ∧
  (∀ (l0 l1 l2 l3 l4 : Option Value) (s0 : Int32) (s1 : Int32) (h : sx_H), sx_Ev S 47 102 [l0, l1, l2, l3, l4] [.int s0, .int s1] h = if s1 = s0 then sx_Ev S 47 110 [l0, l1, l2, l3, l4] [] h else sx_Ev S 47 105 [l0, l1, l2, l3, l4] [] h) ∧
  (∀ (l0 l2 l3 l4 : Option Value) (x : Int32) (h : sx_H), sx_Ev S 47 105 [l0, some (.int x), l2, l3, l4] [] h = sx_Ev S 47 106 [l0, some (.int x), l2, l3, l4] [.int x] h) ∧
  (∀ (l0 l1 l2 l3 l4 : Option Value) (s0 : Int32) (h : sx_H), sx_Ev S 47 106 [l0, l1, l2, l3, l4] [.int s0] h = sx_Ev S 47 107 [l0, l1, l2, l3, l4] [.int (sz (2)), .int s0] h) ∧
  (∀ (l0 l1 l2 l3 l4 : Option Value) (s0 : Int32) (s1 : Int32) (h : sx_H), sx_Ev S 47 107 [l0, l1, l2, l3, l4] [.int s0, .int s1] h = if s1 = s0 then sx_Ev S 47 110 [l0, l1, l2, l3, l4] [] h else sx_Ev S 47 116 [l0, l1, l2, l3, l4] [] h) ∧
  (∀ (l0 l1 l3 l4 : Option Value) (x : Int32) (h : sx_H), sx_Ev S 47 110 [l0, l1, some (.int x), l3, l4] [] h = sx_Ev S 47 111 [l0, l1, some (.int x), l3, l4] [.int x] h) ∧
  (∀ (l0 l1 l2 l3 l4 : Option Value) (s0 : Int32) (h : sx_H), sx_Ev S 47 111 [l0, l1, l2, l3, l4] [.int s0] h = sx_Ev S 47 112 [l0, l1, l2, l3, l4] [.int (sz (2)), .int s0] h) ∧
  (∀ (l0 l1 l2 l3 l4 : Option Value) (s0 : Int32) (s1 : Int32) (h : sx_H), sx_Ev S 47 112 [l0, l1, l2, l3, l4] [.int s0, .int s1] h = if s0 = 0 then none else sx_Ev S 47 113 [l0, l1, l2, l3, l4] [.int (s1 / s0)] h) ∧
  (∀ (l0 l1 l2 l3 l4 : Option Value) (s0 : Int32) (h : sx_H), sx_Ev S 47 113 [l0, l1, l2, l3, l4] [.int s0] h = sx_Ev S 47 117 [l0, l1, l2, l3, l4] [.int s0] h) ∧
  (∀ (l0 l1 l3 l4 : Option Value) (x : Int32) (h : sx_H), sx_Ev S 47 116 [l0, l1, some (.int x), l3, l4] [] h = sx_Ev S 47 117 [l0, l1, some (.int x), l3, l4] [.int x] h) ∧
  (∀ (l0 l1 l2 l3 l4 : Option Value) (s0 : Int32) (h : sx_H), sx_Ev S 47 117 [l0, l1, l2, l3, l4] [.int s0] h = some (.inl (some (.int s0)), h)) := ⟨fun _ _ _ _ _ _ => sx_e_nx rfl rfl,
  fun _ _ _ _ _ _ _ => sx_e_nx rfl rfl,
  fun _ _ _ _ _ _ _ _ => sx_e_ieq rfl (by decide) rfl,
  fun _ _ _ _ _ _ => sx_e_nx rfl rfl,
  fun _ _ _ _ _ _ _ => sx_e_nx rfl rfl,
  fun _ _ _ _ _ _ _ _ => sx_e_ine rfl (by decide) rfl,
  fun _ _ _ _ _ _ => sx_e_nx rfl rfl,
  fun _ _ _ _ _ _ _ => sx_e_nx rfl rfl,
  fun _ _ _ _ _ _ _ _ => sx_e_div rfl rfl,
  fun _ _ _ _ _ _ _ => sx_e_goto rfl (by decide),
  fun _ _ _ _ _ _ => sx_e_nx rfl rfl,
  fun _ _ _ _ _ _ _ => sx_e_ret rfl rfl rfl⟩
/-- 48: X5_countOwnBreaches (LBeadslant$Cloth;)I -/
theorem c48_q (S : List Int32) : ∀ (a0 : Nat) (h : sx_H), sx_Cl S 48 [.ref a0] h = sx_Ev S 48 0 [some (.ref a0), none, none] [] h := fun _ _ => rfl
theorem h48_4 (S : List Int32) : (∀ (l0 l1 : Option Value) (x : Int32) (h : sx_H), sx_Ev S 48 4 [l0, l1, some (.int x)] [] h = sx_Ev S 48 5 [l0, l1, some (.int x)] [.int x] h) := fun _ _ _ _ => sx_e_nx rfl rfl
theorem q48 (S : List Int32) : (∀ (l0 l1 l2 : Option Value) (h : sx_H), sx_Ev S 48 0 [l0, l1, l2] [] h = sx_Ev S 48 1 [l0, l1, l2] [.int (sz (0))] h) ∧
  (∀ (l0 l1 l2 : Option Value) (s0 : Int32) (h : sx_H), sx_Ev S 48 1 [l0, l1, l2] [.int s0] h = sx_Ev S 48 2 [l0, some (.int s0), l2] [] h) ∧
  (∀ (l0 l1 l2 : Option Value) (h : sx_H), sx_Ev S 48 2 [l0, l1, l2] [] h = sx_Ev S 48 3 [l0, l1, l2] [.int (sz (1))] h) ∧
  (∀ (l0 l1 l2 : Option Value) (s0 : Int32) (h : sx_H), sx_Ev S 48 3 [l0, l1, l2] [.int s0] h = sx_Ev S 48 4 [l0, l1, some (.int s0)] [] h) ∧
  (∀ (l0 l1 l2 : Option Value) (s0 : Int32) (h : sx_H), sx_Ev S 48 5 [l0, l1, l2] [.int s0] h = sx_Ev S 48 7 [l0, l1, l2] [.int (sz (8)), .int s0] h) ∧
  (∀ (l0 l1 l2 : Option Value) (s0 : Int32) (s1 : Int32) (h : sx_H), sx_Ev S 48 7 [l0, l1, l2] [.int s0, .int s1] h = if s0 < s1 then sx_Ev S 48 34 [l0, l1, l2] [] h else sx_Ev S 48 10 [l0, l1, l2] [] h) ∧
  (∀ (l1 l2 : Option Value) (x : Nat) (h : sx_H), sx_Ev S 48 10 [some (.ref x), l1, l2] [] h = sx_Ev S 48 11 [some (.ref x), l1, l2] [.ref x] h) ∧
  (∀ (l0 l1 l2 : Option Value) (s0 : Nat) (h : sx_H), sx_Ev S 48 11 [l0, l1, l2] [.ref s0] h = (sx_fld h s0 0 10).bind fun v => sx_Ev S 48 14 [l0, l1, l2] [v] h) ∧
  (∀ (l0 l1 : Option Value) (s0 : Int32) (x : Int32) (h : sx_H), sx_Ev S 48 14 [l0, l1, some (.int x)] [.int s0] h = sx_Ev S 48 15 [l0, l1, some (.int x)] [.int x, .int s0] h) ∧
  (∀ (l0 l1 l2 : Option Value) (s0 : Int32) (s1 : Int32) (h : sx_H), sx_Ev S 48 15 [l0, l1, l2] [.int s0, .int s1] h = sx_Ev S 48 16 [l0, l1, l2] [.int (s1 &&& s0)] h) ∧
  (∀ (l0 l1 l2 : Option Value) (s0 : Int32) (h : sx_H), sx_Ev S 48 16 [l0, l1, l2] [.int s0] h = if s0 = 0 then sx_Ev S 48 27 [l0, l1, l2] [] h else sx_Ev S 48 19 [l0, l1, l2] [] h) ∧
  (∀ (l0 l2 : Option Value) (x : Int32) (h : sx_H), sx_Ev S 48 19 [l0, some (.int x), l2] [] h = sx_Ev S 48 20 [l0, some (.int x), l2] [.int x] h) ∧
  (∀ (l1 l2 : Option Value) (s0 : Int32) (x : Nat) (h : sx_H), sx_Ev S 48 20 [some (.ref x), l1, l2] [.int s0] h = sx_Ev S 48 21 [some (.ref x), l1, l2] [.ref x, .int s0] h) ∧
  (∀ (l0 l1 : Option Value) (s0 : Nat) (s1 : Int32) (x : Int32) (h : sx_H), sx_Ev S 48 21 [l0, l1, some (.int x)] [.ref s0, .int s1] h = sx_Ev S 48 22 [l0, l1, some (.int x)] [.int x, .ref s0, .int s1] h) ∧
  (∀ (l0 l1 l2 : Option Value) (s0 : Int32) (s1 : Nat) (s2 : Int32) (h : sx_H), sx_Ev S 48 22 [l0, l1, l2] [.int s0, .ref s1, .int s2] h = sx_back S 48 22 [l0, l1, l2] [.int s2] (sx_Cl S 47 [.ref s1, .int s0] h)) ∧
  (∀ (ls : sx_L) (st : List Value) (v : Value) (h : sx_H), sx_back S 48 22 ls st (some (.inl (some v), h)) = sx_Ev S 48 25 ls (v :: st) h) ∧
  (∀ (ls : sx_L) (st : List Value) (e : Nat) (h : sx_H), sx_back S 48 22 ls st (some (.inr e, h)) = some (.inr e, h)) ∧
  (∀ (l0 l1 l2 : Option Value) (s0 : Int32) (s1 : Int32) (h : sx_H), sx_Ev S 48 25 [l0, l1, l2] [.int s0, .int s1] h = sx_Ev S 48 26 [l0, l1, l2] [.int (s1 + s0)] h) ∧
  (∀ (l0 l1 l2 : Option Value) (s0 : Int32) (h : sx_H), sx_Ev S 48 26 [l0, l1, l2] [.int s0] h = sx_Ev S 48 27 [l0, some (.int s0), l2] [] h) ∧
  (∀ (l0 l1 : Option Value) (x : Int32) (h : sx_H), sx_Ev S 48 27 [l0, l1, some (.int x)] [] h = sx_Ev S 48 28 [l0, l1, some (.int x)] [.int x] h) ∧
  (∀ (l0 l1 l2 : Option Value) (s0 : Int32) (h : sx_H), sx_Ev S 48 28 [l0, l1, l2] [.int s0] h = sx_Ev S 48 29 [l0, l1, l2] [.int (sz (2)), .int s0] h) ∧
  (∀ (l0 l1 l2 : Option Value) (s0 : Int32) (s1 : Int32) (h : sx_H), sx_Ev S 48 29 [l0, l1, l2] [.int s0, .int s1] h = sx_Ev S 48 30 [l0, l1, l2] [.int (s1 * s0)] h) ∧
  (∀ (l0 l1 l2 : Option Value) (s0 : Int32) (h : sx_H), sx_Ev S 48 30 [l0, l1, l2] [.int s0] h = sx_Ev S 48 31 [l0, l1, some (.int s0)] [] h) ∧
  (∀ (l0 l1 l2 : Option Value) (h : sx_H), sx_Ev S 48 31 [l0, l1, l2] [] h = sx_Ev S 48 4 [l0, l1, l2] [] h) ∧
  (∀ (l0 l2 : Option Value) (x : Int32) (h : sx_H), sx_Ev S 48 34 [l0, some (.int x), l2] [] h = sx_Ev S 48 35 [l0, some (.int x), l2] [.int x] h) ∧
  (∀ (l0 l1 l2 : Option Value) (s0 : Int32) (h : sx_H), sx_Ev S 48 35 [l0, l1, l2] [.int s0] h = some (.inl (some (.int s0)), h)) := ⟨fun _ _ _ _ => sx_e_nx rfl rfl,
  fun _ _ _ _ _ => sx_e_nx rfl rfl,
  fun _ _ _ _ => sx_e_nx rfl rfl,
  fun _ _ _ _ _ => sx_e_nx rfl rfl,
  fun _ _ _ _ _ => sx_e_bi rfl (by decide +kernel) rfl,
  fun _ _ _ _ _ _ => sx_e_igt rfl (by decide) rfl,
  fun _ _ _ _ => sx_e_nx rfl rfl,
  fun _ _ _ _ _ => sx_e_getf rfl rfl (by decide) rfl,
  fun _ _ _ _ _ => sx_e_nx rfl rfl,
  fun _ _ _ _ _ _ => sx_e_nx rfl rfl,
  fun _ _ _ _ _ => sx_e_eq rfl (by decide) rfl,
  fun _ _ _ _ => sx_e_nx rfl rfl,
  fun _ _ _ _ _ => sx_e_nx rfl rfl,
  fun _ _ _ _ _ _ => sx_e_nx rfl rfl,
  fun _ _ _ _ _ _ _ => sx_e_ca rfl rfl,
  fun _ _ _ _ => rfl,
  fun _ _ _ _ => rfl,
  fun _ _ _ _ _ _ => sx_e_nx rfl rfl,
  fun _ _ _ _ _ => sx_e_nx rfl rfl,
  fun _ _ _ _ => sx_e_nx rfl rfl,
  fun _ _ _ _ _ => sx_e_nx rfl rfl,
  fun _ _ _ _ _ _ => sx_e_nx rfl rfl,
  fun _ _ _ _ _ => sx_e_nx rfl rfl,
  fun _ _ _ _ => sx_e_goto rfl (by decide),
  fun _ _ _ _ => sx_e_nx rfl rfl,
  fun _ _ _ _ _ => sx_e_ret rfl rfl rfl⟩
/-- 49: X5_isBrokenAt (LBeadslant$Cloth;II)Z -/
theorem c49_q (S : List Int32) : ∀ (a0 : Nat) (a1 : Int32) (a2 : Int32) (h : sx_H), sx_Cl S 49 [.ref a0, .int a1, .int a2] h = sx_Ev S 49 0 [some (.ref a0), some (.int a1), some (.int a2), none] [] h := fun _ _ _ _ => rfl
theorem h49_23 (S : List Int32) : (∀ (l0 l1 l2 : Option Value) (x : Int32) (h : sx_H), sx_Ev S 49 23 [l0, l1, l2, some (.int x)] [] h = sx_Ev S 49 24 [l0, l1, l2, some (.int x)] [.int x] h) := fun _ _ _ _ _ => sx_e_nx rfl rfl
theorem h49_62 (S : List Int32) : (∀ (l0 l1 l2 : Option Value) (x : Int32) (h : sx_H), sx_Ev S 49 62 [l0, l1, l2, some (.int x)] [] h = sx_Ev S 49 63 [l0, l1, l2, some (.int x)] [.int x] h) := fun _ _ _ _ _ => sx_e_nx rfl rfl
theorem q49_0 (S : List Int32) : (∀ (l1 l2 l3 : Option Value) (x : Nat) (h : sx_H), sx_Ev S 49 0 [some (.ref x), l1, l2, l3] [] h = sx_Ev S 49 1 [some (.ref x), l1, l2, l3] [.ref x] h) ∧
  (∀ (l0 l1 l2 l3 : Option Value) (s0 : Nat) (h : sx_H), sx_Ev S 49 1 [l0, l1, l2, l3] [.ref s0] h = (sx_fld h s0 0 10).bind fun v => sx_Ev S 49 4 [l0, l1, l2, l3] [v] h) ∧
  (∀ (l0 l1 l2 l3 : Option Value) (s0 : Int32) (h : sx_H), sx_Ev S 49 4 [l0, l1, l2, l3] [.int s0] h = sx_Ev S 49 5 [l0, l1, l2, some (.int s0)] [] h) ∧
  (∀ (l0 l1 l2 : Option Value) (x : Int32) (h : sx_H), sx_Ev S 49 5 [l0, l1, l2, some (.int x)] [] h = sx_Ev S 49 6 [l0, l1, l2, some (.int x)] [.int x] h) ∧
  (∀ (l0 l1 l2 l3 : Option Value) (s0 : Int32) (h : sx_H), sx_Ev S 49 6 [l0, l1, l2, l3] [.int s0] h = sx_Ev S 49 7 [l0, l1, l2, l3] [.int (sz (3)), .int s0] h) ∧
  (∀ (l0 l1 l2 l3 : Option Value) (s0 : Int32) (s1 : Int32) (h : sx_H), sx_Ev S 49 7 [l0, l1, l2, l3] [.int s0, .int s1] h = sx_Ev S 49 8 [l0, l1, l2, l3] [.int (s1 &&& s0)] h) ∧
  (∀ (l0 l1 l2 l3 : Option Value) (s0 : Int32) (h : sx_H), sx_Ev S 49 8 [l0, l1, l2, l3] [.int s0] h = if s0 = 0 then sx_Ev S 49 23 [l0, l1, l2, l3] [] h else sx_Ev S 49 11 [l0, l1, l2, l3] [] h) ∧
  (∀ (l1 l2 l3 : Option Value) (x : Nat) (h : sx_H), sx_Ev S 49 11 [some (.ref x), l1, l2, l3] [] h = sx_Ev S 49 12 [some (.ref x), l1, l2, l3] [.ref x] h) ∧
  (∀ (l0 l1 l2 : Option Value) (s0 : Nat) (x : Int32) (h : sx_H), sx_Ev S 49 12 [l0, l1, l2, some (.int x)] [.ref s0] h = sx_Ev S 49 13 [l0, l1, l2, some (.int x)] [.int x, .ref s0] h) ∧
  (∀ (l0 l2 l3 : Option Value) (s0 : Int32) (s1 : Nat) (x : Int32) (h : sx_H), sx_Ev S 49 13 [l0, some (.int x), l2, l3] [.int s0, .ref s1] h = sx_Ev S 49 14 [l0, some (.int x), l2, l3] [.int x, .int s0, .ref s1] h) ∧
  (∀ (l0 l1 l3 : Option Value) (s0 : Int32) (s1 : Int32) (s2 : Nat) (x : Int32) (h : sx_H), sx_Ev S 49 14 [l0, l1, some (.int x), l3] [.int s0, .int s1, .ref s2] h = sx_Ev S 49 15 [l0, l1, some (.int x), l3] [.int x, .int s0, .int s1, .ref s2] h) ∧
  (∀ (l0 l1 l2 l3 : Option Value) (s0 : Int32) (s1 : Int32) (s2 : Int32) (s3 : Nat) (h : sx_H), sx_Ev S 49 15 [l0, l1, l2, l3] [.int s0, .int s1, .int s2, .ref s3] h = sx_back S 49 15 [l0, l1, l2, l3] [] (sx_Cl S 46 [.ref s3, .int s2, .int s1, .int s0] h)) ∧
  (∀ (ls : sx_L) (st : List Value) (v : Value) (h : sx_H), sx_back S 49 15 ls st (some (.inl (some v), h)) = sx_Ev S 49 18 ls (v :: st) h) ∧
  (∀ (ls : sx_L) (st : List Value) (e : Nat) (h : sx_H), sx_back S 49 15 ls st (some (.inr e, h)) = some (.inr e, h)) ∧
  (∀ (l0 l1 l2 l3 : Option Value) (s0 : Int32) (h : sx_H), sx_Ev S 49 18 [l0, l1, l2, l3] [.int s0] h = if 0 < s0 then sx_Ev S 49 21 [l0, l1, l2, l3] [] h else sx_Ev S 49 23 [l0, l1, l2, l3] [] h) ∧
  (∀ (l0 l1 l2 l3 : Option Value) (h : sx_H), sx_Ev S 49 21 [l0, l1, l2, l3] [] h = sx_Ev S 49 22 [l0, l1, l2, l3] [.int (sz (1))] h) ∧
  (∀ (l0 l1 l2 l3 : Option Value) (s0 : Int32) (h : sx_H), narrow .boolean (.int s0) = .int s0 → sx_Ev S 49 22 [l0, l1, l2, l3] [.int s0] h = some (.inl (some (.int s0)), h)) ∧
  (∀ (l0 l1 l2 l3 : Option Value) (s0 : Int32) (h : sx_H), sx_Ev S 49 24 [l0, l1, l2, l3] [.int s0] h = sx_Ev S 49 25 [l0, l1, l2, l3] [.int (sz (4)), .int s0] h) ∧
  (∀ (l0 l1 l2 l3 : Option Value) (s0 : Int32) (s1 : Int32) (h : sx_H), sx_Ev S 49 25 [l0, l1, l2, l3] [.int s0, .int s1] h = sx_Ev S 49 26 [l0, l1, l2, l3] [.int (s1 &&& s0)] h) ∧
  (∀ (l0 l1 l2 l3 : Option Value) (s0 : Int32) (h : sx_H), sx_Ev S 49 26 [l0, l1, l2, l3] [.int s0] h = if s0 = 0 then sx_Ev S 49 62 [l0, l1, l2, l3] [] h else sx_Ev S 49 29 [l0, l1, l2, l3] [] h) ∧
  (∀ (l1 l2 l3 : Option Value) (x : Nat) (h : sx_H), sx_Ev S 49 29 [some (.ref x), l1, l2, l3] [] h = sx_Ev S 49 30 [some (.ref x), l1, l2, l3] [.ref x] h) ∧
  (∀ (l0 l2 l3 : Option Value) (s0 : Nat) (x : Int32) (h : sx_H), sx_Ev S 49 30 [l0, some (.int x), l2, l3] [.ref s0] h = sx_Ev S 49 31 [l0, some (.int x), l2, l3] [.int x, .ref s0] h) ∧
  (∀ (l0 l1 l3 : Option Value) (s0 : Int32) (s1 : Nat) (x : Int32) (h : sx_H), sx_Ev S 49 31 [l0, l1, some (.int x), l3] [.int s0, .ref s1] h = sx_Ev S 49 32 [l0, l1, some (.int x), l3] [.int x, .int s0, .ref s1] h) ∧
  (∀ (l0 l1 l2 l3 : Option Value) (s0 : Int32) (s1 : Int32) (s2 : Nat) (h : sx_H), sx_Ev S 49 32 [l0, l1, l2, l3] [.int s0, .int s1, .ref s2] h = sx_Ev S 49 33 [l0, l1, l2, l3] [.int (sz (2)), .int s0, .int s1, .ref s2] h) ∧
  (∀ (l0 l1 l2 l3 : Option Value) (s0 : Int32) (s1 : Int32) (s2 : Int32) (s3 : Nat) (h : sx_H), sx_Ev S 49 33 [l0, l1, l2, l3] [.int s0, .int s1, .int s2, .ref s3] h = sx_Ev S 49 34 [l0, l1, l2, l3] [.int (s1 - s0), .int s2, .ref s3] h) ∧
  (∀ (l0 l1 l2 l3 : Option Value) (s0 : Int32) (s1 : Int32) (s2 : Nat) (h : sx_H), sx_Ev S 49 34 [l0, l1, l2, l3] [.int s0, .int s1, .ref s2] h = sx_back S 49 34 [l0, l1, l2, l3] [] (sx_Cl S 42 [.ref s2, .int s1, .int s0] h)) ∧
  (∀ (ls : sx_L) (st : List Value) (v : Value) (h : sx_H), sx_back S 49 34 ls st (some (.inl (some v), h)) = sx_Ev S 49 37 ls (v :: st) h) ∧
  (∀ (ls : sx_L) (st : List Value) (e : Nat) (h : sx_H), sx_back S 49 34 ls st (some (.inr e, h)) = some (.inr e, h)) ∧
  (∀ (l0 l1 l2 l3 : Option Value) (s0 : Int32) (h : sx_H), sx_Ev S 49 37 [l0, l1, l2, l3] [.int s0] h = if s0 = 0 then sx_Ev S 49 40 [l0, l1, l2, l3] [] h else sx_Ev S 49 60 [l0, l1, l2, l3] [] h) ∧
  (∀ (l1 l2 l3 : Option Value) (x : Nat) (h : sx_H), sx_Ev S 49 40 [some (.ref x), l1, l2, l3] [] h = sx_Ev S 49 41 [some (.ref x), l1, l2, l3] [.ref x] h) ∧
  (∀ (l0 l2 l3 : Option Value) (s0 : Nat) (x : Int32) (h : sx_H), sx_Ev S 49 41 [l0, some (.int x), l2, l3] [.ref s0] h = sx_Ev S 49 42 [l0, some (.int x), l2, l3] [.int x, .ref s0] h) ∧
  (∀ (l0 l1 l3 : Option Value) (s0 : Int32) (s1 : Nat) (x : Int32) (h : sx_H), sx_Ev S 49 42 [l0, l1, some (.int x), l3] [.int s0, .ref s1] h = sx_Ev S 49 43 [l0, l1, some (.int x), l3] [.int x, .int s0, .ref s1] h) ∧
  (∀ (l0 l1 l2 l3 : Option Value) (s0 : Int32) (s1 : Int32) (s2 : Nat) (h : sx_H), sx_Ev S 49 43 [l0, l1, l2, l3] [.int s0, .int s1, .ref s2] h = sx_Ev S 49 44 [l0, l1, l2, l3] [.int (sz (1)), .int s0, .int s1, .ref s2] h) ∧
  (∀ (l0 l1 l2 l3 : Option Value) (s0 : Int32) (s1 : Int32) (s2 : Int32) (s3 : Nat) (h : sx_H), sx_Ev S 49 44 [l0, l1, l2, l3] [.int s0, .int s1, .int s2, .ref s3] h = sx_Ev S 49 45 [l0, l1, l2, l3] [.int (s1 - s0), .int s2, .ref s3] h) ∧
  (∀ (l0 l1 l2 l3 : Option Value) (s0 : Int32) (s1 : Int32) (s2 : Nat) (h : sx_H), sx_Ev S 49 45 [l0, l1, l2, l3] [.int s0, .int s1, .ref s2] h = sx_back S 49 45 [l0, l1, l2, l3] [] (sx_Cl S 42 [.ref s2, .int s1, .int s0] h)) ∧
  (∀ (ls : sx_L) (st : List Value) (v : Value) (h : sx_H), sx_back S 49 45 ls st (some (.inl (some v), h)) = sx_Ev S 49 48 ls (v :: st) h) ∧
  (∀ (ls : sx_L) (st : List Value) (e : Nat) (h : sx_H), sx_back S 49 45 ls st (some (.inr e, h)) = some (.inr e, h)) ∧
  (∀ (l0 l1 l2 l3 : Option Value) (s0 : Int32) (h : sx_H), sx_Ev S 49 48 [l0, l1, l2, l3] [.int s0] h = if s0 = 0 then sx_Ev S 49 51 [l0, l1, l2, l3] [] h else sx_Ev S 49 60 [l0, l1, l2, l3] [] h) ∧
  (∀ (l1 l2 l3 : Option Value) (x : Nat) (h : sx_H), sx_Ev S 49 51 [some (.ref x), l1, l2, l3] [] h = sx_Ev S 49 52 [some (.ref x), l1, l2, l3] [.ref x] h) ∧
  (∀ (l0 l2 l3 : Option Value) (s0 : Nat) (x : Int32) (h : sx_H), sx_Ev S 49 52 [l0, some (.int x), l2, l3] [.ref s0] h = sx_Ev S 49 53 [l0, some (.int x), l2, l3] [.int x, .ref s0] h) ∧
  (∀ (l0 l1 l3 : Option Value) (s0 : Int32) (s1 : Nat) (x : Int32) (h : sx_H), sx_Ev S 49 53 [l0, l1, some (.int x), l3] [.int s0, .ref s1] h = sx_Ev S 49 54 [l0, l1, some (.int x), l3] [.int x, .int s0, .ref s1] h) ∧
  (∀ (l0 l1 l2 l3 : Option Value) (s0 : Int32) (s1 : Int32) (s2 : Nat) (h : sx_H), sx_Ev S 49 54 [l0, l1, l2, l3] [.int s0, .int s1, .ref s2] h = sx_back S 49 54 [l0, l1, l2, l3] [] (sx_Cl S 42 [.ref s2, .int s1, .int s0] h)) ∧
  (∀ (ls : sx_L) (st : List Value) (v : Value) (h : sx_H), sx_back S 49 54 ls st (some (.inl (some v), h)) = sx_Ev S 49 57 ls (v :: st) h) ∧
  (∀ (ls : sx_L) (st : List Value) (e : Nat) (h : sx_H), sx_back S 49 54 ls st (some (.inr e, h)) = some (.inr e, h)) ∧
  (∀ (l0 l1 l2 l3 : Option Value) (s0 : Int32) (h : sx_H), sx_Ev S 49 57 [l0, l1, l2, l3] [.int s0] h = if s0 = 0 then sx_Ev S 49 62 [l0, l1, l2, l3] [] h else sx_Ev S 49 60 [l0, l1, l2, l3] [] h) ∧
  (∀ (l0 l1 l2 l3 : Option Value) (h : sx_H), sx_Ev S 49 60 [l0, l1, l2, l3] [] h = sx_Ev S 49 61 [l0, l1, l2, l3] [.int (sz (1))] h) ∧
  (∀ (l0 l1 l2 l3 : Option Value) (s0 : Int32) (h : sx_H), narrow .boolean (.int s0) = .int s0 → sx_Ev S 49 61 [l0, l1, l2, l3] [.int s0] h = some (.inl (some (.int s0)), h)) ∧
  (∀ (l0 l1 l2 l3 : Option Value) (s0 : Int32) (h : sx_H), sx_Ev S 49 63 [l0, l1, l2, l3] [.int s0] h = sx_Ev S 49 65 [l0, l1, l2, l3] [.int (sz (8)), .int s0] h) ∧
  (∀ (l0 l1 l2 l3 : Option Value) (s0 : Int32) (s1 : Int32) (h : sx_H), sx_Ev S 49 65 [l0, l1, l2, l3] [.int s0, .int s1] h = sx_Ev S 49 66 [l0, l1, l2, l3] [.int (s1 &&& s0)] h) ∧
  (∀ (l0 l1 l2 l3 : Option Value) (s0 : Int32) (h : sx_H), sx_Ev S 49 66 [l0, l1, l2, l3] [.int s0] h = if s0 = 0 then sx_Ev S 49 69 [l0, l1, l2, l3] [] h else sx_Ev S 49 71 [l0, l1, l2, l3] [] h) ∧
  (∀ (l0 l1 l2 l3 : Option Value) (h : sx_H), sx_Ev S 49 69 [l0, l1, l2, l3] [] h = sx_Ev S 49 70 [l0, l1, l2, l3] [.int (sz (0))] h) ∧
  (∀ (l0 l1 l2 l3 : Option Value) (s0 : Int32) (h : sx_H), narrow .boolean (.int s0) = .int s0 → sx_Ev S 49 70 [l0, l1, l2, l3] [.int s0] h = some (.inl (some (.int s0)), h)) ∧
  (∀ (l0 l2 l3 : Option Value) (x : Int32) (h : sx_H), sx_Ev S 49 71 [l0, some (.int x), l2, l3] [] h = sx_Ev S 49 72 [l0, some (.int x), l2, l3] [.int x] h) ∧
  (∀ (l0 l1 l2 l3 : Option Value) (s0 : Int32) (h : sx_H), sx_Ev S 49 72 [l0, l1, l2, l3] [.int s0] h = if s0 = 0 then sx_Ev S 49 75 [l0, l1, l2, l3] [] h else sx_Ev S 49 96 [l0, l1, l2, l3] [] h) ∧
  (∀ (l0 l1 l3 : Option Value) (x : Int32) (h : sx_H), sx_Ev S 49 75 [l0, l1, some (.int x), l3] [] h = sx_Ev S 49 76 [l0, l1, some (.int x), l3] [.int x] h) ∧
  (∀ (l0 l1 l2 l3 : Option Value) (s0 : Int32) (h : sx_H), sx_Ev S 49 76 [l0, l1, l2, l3] [.int s0] h = if s0 = 0 then sx_Ev S 49 79 [l0, l1, l2, l3] [] h else sx_Ev S 49 96 [l0, l1, l2, l3] [] h) ∧
  (∀ (l1 l2 l3 : Option Value) (x : Nat) (h : sx_H), sx_Ev S 49 79 [some (.ref x), l1, l2, l3] [] h = sx_Ev S 49 80 [some (.ref x), l1, l2, l3] [.ref x] h) ∧
  (∀ (l0 l1 l2 l3 : Option Value) (s0 : Nat) (h : sx_H), sx_Ev S 49 80 [l0, l1, l2, l3] [.ref s0] h = sx_Ev S 49 82 [l0, l1, l2, l3] [.int (sz (8)), .ref s0] h) ∧
  (∀ (l0 l1 l2 l3 : Option Value) (s0 : Int32) (s1 : Nat) (h : sx_H), sx_Ev S 49 82 [l0, l1, l2, l3] [.int s0, .ref s1] h = sx_back S 49 82 [l0, l1, l2, l3] [] (sx_Cl S 47 [.ref s1, .int s0] h)) ∧
  (∀ (ls : sx_L) (st : List Value) (v : Value) (h : sx_H), sx_back S 49 82 ls st (some (.inl (some v), h)) = sx_Ev S 49 85 ls (v :: st) h) := ⟨fun _ _ _ _ _ => sx_e_nx rfl rfl,
  fun _ _ _ _ _ _ => sx_e_getf rfl rfl (by decide) rfl,
  fun _ _ _ _ _ _ => sx_e_nx rfl rfl,
  fun _ _ _ _ _ => sx_e_nx rfl rfl,
  fun _ _ _ _ _ _ => sx_e_nx rfl rfl,
  fun _ _ _ _ _ _ _ => sx_e_nx rfl rfl,
  fun _ _ _ _ _ _ => sx_e_eq rfl (by decide) rfl,
  fun _ _ _ _ _ => sx_e_nx rfl rfl,
  fun _ _ _ _ _ _ => sx_e_nx rfl rfl,
  fun _ _ _ _ _ _ _ => sx_e_nx rfl rfl,
  fun _ _ _ _ _ _ _ _ => sx_e_nx rfl rfl,
  fun _ _ _ _ _ _ _ _ _ => sx_e_ca rfl rfl,
  fun _ _ _ _ => rfl,
  fun _ _ _ _ => rfl,
  fun _ _ _ _ _ _ => sx_e_le rfl (by decide) rfl,
  fun _ _ _ _ _ => sx_e_nx rfl rfl,
  fun _ _ _ _ _ _ hv => sx_e_ret rfl rfl hv,
  fun _ _ _ _ _ _ => sx_e_nx rfl rfl,
  fun _ _ _ _ _ _ _ => sx_e_nx rfl rfl,
  fun _ _ _ _ _ _ => sx_e_eq rfl (by decide) rfl,
  fun _ _ _ _ _ => sx_e_nx rfl rfl,
  fun _ _ _ _ _ _ => sx_e_nx rfl rfl,
  fun _ _ _ _ _ _ _ => sx_e_nx rfl rfl,
  fun _ _ _ _ _ _ _ _ => sx_e_nx rfl rfl,
  fun _ _ _ _ _ _ _ _ _ => sx_e_nx rfl rfl,
  fun _ _ _ _ _ _ _ _ => sx_e_ca rfl rfl,
  fun _ _ _ _ => rfl,
  fun _ _ _ _ => rfl,
  fun _ _ _ _ _ _ => sx_e_ne rfl (by decide) rfl,
  fun _ _ _ _ _ => sx_e_nx rfl rfl,
  fun _ _ _ _ _ _ => sx_e_nx rfl rfl,
  fun _ _ _ _ _ _ _ => sx_e_nx rfl rfl,
  fun _ _ _ _ _ _ _ _ => sx_e_nx rfl rfl,
  fun _ _ _ _ _ _ _ _ _ => sx_e_nx rfl rfl,
  fun _ _ _ _ _ _ _ _ => sx_e_ca rfl rfl,
  fun _ _ _ _ => rfl,
  fun _ _ _ _ => rfl,
  fun _ _ _ _ _ _ => sx_e_ne rfl (by decide) rfl,
  fun _ _ _ _ _ => sx_e_nx rfl rfl,
  fun _ _ _ _ _ _ => sx_e_nx rfl rfl,
  fun _ _ _ _ _ _ _ => sx_e_nx rfl rfl,
  fun _ _ _ _ _ _ _ _ => sx_e_ca rfl rfl,
  fun _ _ _ _ => rfl,
  fun _ _ _ _ => rfl,
  fun _ _ _ _ _ _ => sx_e_eq rfl (by decide) rfl,
  fun _ _ _ _ _ => sx_e_nx rfl rfl,
  fun _ _ _ _ _ _ hv => sx_e_ret rfl rfl hv,
  fun _ _ _ _ _ _ => sx_e_bi rfl (by decide +kernel) rfl,
  fun _ _ _ _ _ _ _ => sx_e_nx rfl rfl,
  fun _ _ _ _ _ _ => sx_e_ne rfl (by decide) rfl,
  fun _ _ _ _ _ => sx_e_nx rfl rfl,
  fun _ _ _ _ _ _ hv => sx_e_ret rfl rfl hv,
  fun _ _ _ _ _ => sx_e_nx rfl rfl,
  fun _ _ _ _ _ _ => sx_e_ne rfl (by decide) rfl,
  fun _ _ _ _ _ => sx_e_nx rfl rfl,
  fun _ _ _ _ _ _ => sx_e_ne rfl (by decide) rfl,
  fun _ _ _ _ _ => sx_e_nx rfl rfl,
  fun _ _ _ _ _ _ => sx_e_bi rfl (by decide +kernel) rfl,
  fun _ _ _ _ _ _ _ => sx_e_ca rfl rfl,
  fun _ _ _ _ => rfl⟩
theorem q49_1 (S : List Int32) : (∀ (ls : sx_L) (st : List Value) (e : Nat) (h : sx_H), sx_back S 49 82 ls st (some (.inr e, h)) = some (.inr e, h)) ∧
  (∀ (l0 l1 l2 l3 : Option Value) (s0 : Int32) (h : sx_H), sx_Ev S 49 85 [l0, l1, l2, l3] [.int s0] h = if 0 < s0 then sx_Ev S 49 88 [l0, l1, l2, l3] [] h else sx_Ev S 49 92 [l0, l1, l2, l3] [] h) ∧
  (∀ (l0 l1 l2 l3 : Option Value) (h : sx_H), sx_Ev S 49 88 [l0, l1, l2, l3] [] h = sx_Ev S 49 89 [l0, l1, l2, l3] [.int (sz (1))] h) ∧
  (∀ (l0 l1 l2 l3 : Option Value) (s0 : Int32) (h : sx_H), sx_Ev S 49 89 [l0, l1, l2, l3] [.int s0] h = sx_Ev S 49 102 [l0, l1, l2, l3] [.int s0] h) ∧
  (∀ (l0 l1 l2 l3 : Option Value) (h : sx_H), sx_Ev S 49 92 [l0, l1, l2, l3] [] h = sx_Ev S 49 93 [l0, l1, l2, l3] [.int (sz (0))] h) ∧
  (∀ (l0 l1 l2 l3 : Option Value) (s0 : Int32) (h : sx_H), sx_Ev S 49 93 [l0, l1, l2, l3] [.int s0] h = sx_Ev S 49 102 [l0, l1, l2, l3] [.int s0] h) ∧
  (∀ (l1 l2 l3 : Option Value) (x : Nat) (h : sx_H), sx_Ev S 49 96 [some (.ref x), l1, l2, l3] [] h = sx_Ev S 49 97 [some (.ref x), l1, l2, l3] [.ref x] h) ∧
  (∀ (l0 l2 l3 : Option Value) (s0 : Nat) (x : Int32) (h : sx_H), sx_Ev S 49 97 [l0, some (.int x), l2, l3] [.ref s0] h = sx_Ev S 49 98 [l0, some (.int x), l2, l3] [.int x, .ref s0] h) ∧
  (∀ (l0 l1 l3 : Option Value) (s0 : Int32) (s1 : Nat) (x : Int32) (h : sx_H), sx_Ev S 49 98 [l0, l1, some (.int x), l3] [.int s0, .ref s1] h = sx_Ev S 49 99 [l0, l1, some (.int x), l3] [.int x, .int s0, .ref s1] h) ∧
  (∀ (l0 l1 l2 l3 : Option Value) (s0 : Int32) (s1 : Int32) (s2 : Nat) (h : sx_H), sx_Ev S 49 99 [l0, l1, l2, l3] [.int s0, .int s1, .ref s2] h = sx_back S 49 99 [l0, l1, l2, l3] [] (sx_Cl S 43 [.ref s2, .int s1, .int s0] h)) ∧
  (∀ (ls : sx_L) (st : List Value) (v : Value) (h : sx_H), sx_back S 49 99 ls st (some (.inl (some v), h)) = sx_Ev S 49 102 ls (v :: st) h) ∧
  (∀ (ls : sx_L) (st : List Value) (e : Nat) (h : sx_H), sx_back S 49 99 ls st (some (.inr e, h)) = some (.inr e, h)) ∧
  (∀ (l0 l1 l2 l3 : Option Value) (s0 : Int32) (h : sx_H), narrow .boolean (.int s0) = .int s0 → sx_Ev S 49 102 [l0, l1, l2, l3] [.int s0] h = some (.inl (some (.int s0)), h)) := ⟨fun _ _ _ _ => rfl,
  fun _ _ _ _ _ _ => sx_e_le rfl (by decide) rfl,
  fun _ _ _ _ _ => sx_e_nx rfl rfl,
  fun _ _ _ _ _ _ => sx_e_goto rfl (by decide),
  fun _ _ _ _ _ => sx_e_nx rfl rfl,
  fun _ _ _ _ _ _ => sx_e_goto rfl (by decide),
  fun _ _ _ _ _ => sx_e_nx rfl rfl,
  fun _ _ _ _ _ _ => sx_e_nx rfl rfl,
  fun _ _ _ _ _ _ _ => sx_e_nx rfl rfl,
  fun _ _ _ _ _ _ _ _ => sx_e_ca rfl rfl,
  fun _ _ _ _ => rfl,
  fun _ _ _ _ => rfl,
  fun _ _ _ _ _ _ hv => sx_e_ret rfl rfl hv⟩
/-- 50: X2_tryNext (LBeadslant$Cloth;II)Z -/
theorem c50_q (S : List Int32) : ∀ (a0 : Nat) (a1 : Nat) (a2 : Int32) (a3 : Int32) (h : sx_H), sx_Cl S 50 [.ref a0, .ref a1, .int a2, .int a3] h = sx_Ev S 50 0 [some (.ref a0), some (.ref a1), some (.int a2), some (.int a3), none, none] [] h := fun _ _ _ _ _ => rfl
theorem q50 (S : List Int32) : (∀ (l0 l2 l3 l4 l5 : Option Value) (x : Nat) (h : sx_H), sx_Ev S 50 0 [l0, some (.ref x), l2, l3, l4, l5] [] h = sx_Ev S 50 1 [l0, some (.ref x), l2, l3, l4, l5] [.ref x] h) ∧
  (∀ (l0 l1 l3 l4 l5 : Option Value) (s0 : Nat) (x : Int32) (h : sx_H), sx_Ev S 50 1 [l0, l1, some (.int x), l3, l4, l5] [.ref s0] h = sx_Ev S 50 2 [l0, l1, some (.int x), l3, l4, l5] [.int x, .ref s0] h) ∧
  (∀ (l0 l1 l2 l3 l4 l5 : Option Value) (s0 : Int32) (s1 : Nat) (h : sx_H), sx_klass h s1 = some 0 → sx_Ev S 50 2 [l0, l1, l2, l3, l4, l5] [.int s0, .ref s1] h = sx_back S 50 2 [l0, l1, l2, l3, l4, l5] [] (sx_Cl S 27 [.ref s1, .int s0] h)) ∧
  (∀ (ls : sx_L) (st : List Value) (v : Value) (h : sx_H), sx_back S 50 2 ls st (some (.inl (some v), h)) = sx_Ev S 50 5 ls (v :: st) h) ∧
  (∀ (ls : sx_L) (st : List Value) (e : Nat) (h : sx_H), sx_back S 50 2 ls st (some (.inr e, h)) = some (.inr e, h)) ∧
  (∀ (l0 l1 l2 l3 l4 l5 : Option Value) (s0 : Int32) (h : sx_H), sx_Ev S 50 5 [l0, l1, l2, l3, l4, l5] [.int s0] h = sx_Ev S 50 6 [l0, l1, l2, l3, l4, l5] [.int (sz (1)), .int s0] h) ∧
  (∀ (l0 l1 l2 l3 l4 l5 : Option Value) (s0 : Int32) (s1 : Int32) (h : sx_H), sx_Ev S 50 6 [l0, l1, l2, l3, l4, l5] [.int s0, .int s1] h = sx_Ev S 50 7 [l0, l1, l2, l3, l4, l5] [.int (s1 + s0)] h) ∧
  (∀ (l0 l1 l2 l3 l4 l5 : Option Value) (s0 : Int32) (h : sx_H), sx_Ev S 50 7 [l0, l1, l2, l3, l4, l5] [.int s0] h = sx_Ev S 50 9 [l0, l1, l2, l3, some (.int s0), l5] [] h) ∧
  (∀ (l0 l1 l2 l3 l5 : Option Value) (x : Int32) (h : sx_H), sx_Ev S 50 9 [l0, l1, l2, l3, some (.int x), l5] [] h = sx_Ev S 50 11 [l0, l1, l2, l3, some (.int x), l5] [.int x] h) ∧
  (∀ (l0 l1 l2 l4 l5 : Option Value) (s0 : Int32) (x : Int32) (h : sx_H), sx_Ev S 50 11 [l0, l1, l2, some (.int x), l4, l5] [.int s0] h = sx_Ev S 50 12 [l0, l1, l2, some (.int x), l4, l5] [.int x, .int s0] h) ∧
  (∀ (l0 l1 l2 l3 l4 l5 : Option Value) (s0 : Int32) (s1 : Int32) (h : sx_H), sx_Ev S 50 12 [l0, l1, l2, l3, l4, l5] [.int s0, .int s1] h = if s1 < s0 then sx_Ev S 50 23 [l0, l1, l2, l3, l4, l5] [] h else sx_Ev S 50 15 [l0, l1, l2, l3, l4, l5] [] h) ∧
  (∀ (l0 l2 l3 l4 l5 : Option Value) (x : Nat) (h : sx_H), sx_Ev S 50 15 [l0, some (.ref x), l2, l3, l4, l5] [] h = sx_Ev S 50 16 [l0, some (.ref x), l2, l3, l4, l5] [.ref x] h) ∧
  (∀ (l0 l1 l3 l4 l5 : Option Value) (s0 : Nat) (x : Int32) (h : sx_H), sx_Ev S 50 16 [l0, l1, some (.int x), l3, l4, l5] [.ref s0] h = sx_Ev S 50 17 [l0, l1, some (.int x), l3, l4, l5] [.int x, .ref s0] h) ∧
  (∀ (l0 l1 l2 l3 l4 l5 : Option Value) (s0 : Int32) (s1 : Nat) (h : sx_H), sx_Ev S 50 17 [l0, l1, l2, l3, l4, l5] [.int s0, .ref s1] h = sx_Ev S 50 18 [l0, l1, l2, l3, l4, l5] [.int (sz (-1)), .int s0, .ref s1] h) ∧
  (∀ (l0 l1 l2 l3 l4 l5 : Option Value) (s0 : Int32) (s1 : Int32) (s2 : Nat) (h : sx_H), sx_klass h s2 = some 0 → sx_Ev S 50 18 [l0, l1, l2, l3, l4, l5] [.int s0, .int s1, .ref s2] h = sx_back S 50 18 [l0, l1, l2, l3, l4, l5] [] (sx_Cl S 30 [.ref s2, .int s1, .int s0] h)) ∧
  (∀ (ls : sx_L) (st : List Value) (h : sx_H), sx_back S 50 18 ls st (some (.inl none, h)) = sx_Ev S 50 21 ls st h) ∧
  (∀ (ls : sx_L) (st : List Value) (e : Nat) (h : sx_H), sx_back S 50 18 ls st (some (.inr e, h)) = some (.inr e, h)) ∧
  (∀ (l0 l1 l2 l3 l4 l5 : Option Value) (h : sx_H), sx_Ev S 50 21 [l0, l1, l2, l3, l4, l5] [] h = sx_Ev S 50 22 [l0, l1, l2, l3, l4, l5] [.int (sz (0))] h) ∧
  (∀ (l0 l1 l2 l3 l4 l5 : Option Value) (s0 : Int32) (h : sx_H), narrow .boolean (.int s0) = .int s0 → sx_Ev S 50 22 [l0, l1, l2, l3, l4, l5] [.int s0] h = some (.inl (some (.int s0)), h)) ∧
  (∀ (l0 l2 l3 l4 l5 : Option Value) (x : Nat) (h : sx_H), sx_Ev S 50 23 [l0, some (.ref x), l2, l3, l4, l5] [] h = sx_Ev S 50 24 [l0, some (.ref x), l2, l3, l4, l5] [.ref x] h) ∧
  (∀ (l0 l1 l3 l4 l5 : Option Value) (s0 : Nat) (x : Int32) (h : sx_H), sx_Ev S 50 24 [l0, l1, some (.int x), l3, l4, l5] [.ref s0] h = sx_Ev S 50 25 [l0, l1, some (.int x), l3, l4, l5] [.int x, .ref s0] h) ∧
  (∀ (l0 l1 l2 l3 l5 : Option Value) (s0 : Int32) (s1 : Nat) (x : Int32) (h : sx_H), sx_Ev S 50 25 [l0, l1, l2, l3, some (.int x), l5] [.int s0, .ref s1] h = sx_Ev S 50 27 [l0, l1, l2, l3, some (.int x), l5] [.int x, .int s0, .ref s1] h) ∧
  (∀ (l0 l1 l2 l3 l4 l5 : Option Value) (s0 : Int32) (s1 : Int32) (s2 : Nat) (h : sx_H), sx_klass h s2 = some 0 → sx_Ev S 50 27 [l0, l1, l2, l3, l4, l5] [.int s0, .int s1, .ref s2] h = sx_back S 50 27 [l0, l1, l2, l3, l4, l5] [] (sx_Cl S 30 [.ref s2, .int s1, .int s0] h)) ∧
  (∀ (ls : sx_L) (st : List Value) (h : sx_H), sx_back S 50 27 ls st (some (.inl none, h)) = sx_Ev S 50 30 ls st h) ∧
  (∀ (ls : sx_L) (st : List Value) (e : Nat) (h : sx_H), sx_back S 50 27 ls st (some (.inr e, h)) = some (.inr e, h)) ∧
  (∀ (l0 l1 l3 l4 l5 : Option Value) (x : Int32) (h : sx_H), sx_Ev S 50 30 [l0, l1, some (.int x), l3, l4, l5] [] h = sx_Ev S 50 31 [l0, l1, some (.int x), l3, l4, l5] [.int x] h) ∧
  (∀ (l0 l2 l3 l4 l5 : Option Value) (s0 : Int32) (x : Nat) (h : sx_H), sx_Ev S 50 31 [l0, some (.ref x), l2, l3, l4, l5] [.int s0] h = sx_Ev S 50 32 [l0, some (.ref x), l2, l3, l4, l5] [.ref x, .int s0] h) ∧
  (∀ (l0 l1 l2 l3 l4 l5 : Option Value) (s0 : Nat) (s1 : Int32) (h : sx_H), sx_Ev S 50 32 [l0, l1, l2, l3, l4, l5] [.ref s0, .int s1] h = (sx_fld h s0 0 2).bind fun v => sx_Ev S 50 35 [l0, l1, l2, l3, l4, l5] [v, .int s1] h) ∧
  (∀ (l0 l1 l2 l3 l4 l5 : Option Value) (s0 : Int32) (s1 : Int32) (h : sx_H), sx_Ev S 50 35 [l0, l1, l2, l3, l4, l5] [.int s0, .int s1] h = sx_Ev S 50 36 [l0, l1, l2, l3, l4, l5] [.int (sz (1)), .int s0, .int s1] h) ∧
  (∀ (l0 l1 l2 l3 l4 l5 : Option Value) (s0 : Int32) (s1 : Int32) (s2 : Int32) (h : sx_H), sx_Ev S 50 36 [l0, l1, l2, l3, l4, l5] [.int s0, .int s1, .int s2] h = sx_back S 50 36 [l0, l1, l2, l3, l4, l5] [.int s2] (sx_Cl S 96 [.int s1, .int s0] h)) ∧
  (∀ (ls : sx_L) (st : List Value) (v : Value) (h : sx_H), sx_back S 50 36 ls st (some (.inl (some v), h)) = sx_Ev S 50 39 ls (v :: st) h) ∧
  (∀ (ls : sx_L) (st : List Value) (e : Nat) (h : sx_H), sx_back S 50 36 ls st (some (.inr e, h)) = some (.inr e, h)) ∧
  (∀ (l0 l1 l2 l3 l4 l5 : Option Value) (s0 : Int32) (s1 : Int32) (h : sx_H), sx_Ev S 50 39 [l0, l1, l2, l3, l4, l5] [.int s0, .int s1] h = if s0 = 0 then none else sx_Ev S 50 40 [l0, l1, l2, l3, l4, l5] [.int (s1 / s0)] h) ∧
  (∀ (l0 l1 l2 l3 l4 l5 : Option Value) (s0 : Int32) (h : sx_H), sx_Ev S 50 40 [l0, l1, l2, l3, l4, l5] [.int s0] h = sx_Ev S 50 42 [l0, l1, l2, l3, l4, some (.int s0)] [] h) ∧
  (∀ (l0 l2 l3 l4 l5 : Option Value) (x : Nat) (h : sx_H), sx_Ev S 50 42 [l0, some (.ref x), l2, l3, l4, l5] [] h = sx_Ev S 50 43 [l0, some (.ref x), l2, l3, l4, l5] [.ref x] h) ∧
  (∀ (l0 l1 l2 l3 l4 : Option Value) (s0 : Nat) (x : Int32) (h : sx_H), sx_Ev S 50 43 [l0, l1, l2, l3, l4, some (.int x)] [.ref s0] h = sx_Ev S 50 45 [l0, l1, l2, l3, l4, some (.int x)] [.int x, .ref s0] h) ∧
  (∀ (l0 l1 l3 l4 l5 : Option Value) (s0 : Int32) (s1 : Nat) (x : Int32) (h : sx_H), sx_Ev S 50 45 [l0, l1, some (.int x), l3, l4, l5] [.int s0, .ref s1] h = sx_Ev S 50 46 [l0, l1, some (.int x), l3, l4, l5] [.int x, .int s0, .ref s1] h) ∧
  (∀ (l0 l1 l2 l3 l4 : Option Value) (s0 : Int32) (s1 : Int32) (s2 : Nat) (x : Int32) (h : sx_H), sx_Ev S 50 46 [l0, l1, l2, l3, l4, some (.int x)] [.int s0, .int s1, .ref s2] h = sx_Ev S 50 48 [l0, l1, l2, l3, l4, some (.int x)] [.int x, .int s0, .int s1, .ref s2] h) ∧
  (∀ (l0 l2 l3 l4 l5 : Option Value) (s0 : Int32) (s1 : Int32) (s2 : Int32) (s3 : Nat) (x : Nat) (h : sx_H), sx_Ev S 50 48 [l0, some (.ref x), l2, l3, l4, l5] [.int s0, .int s1, .int s2, .ref s3] h = sx_Ev S 50 49 [l0, some (.ref x), l2, l3, l4, l5] [.ref x, .int s0, .int s1, .int s2, .ref s3] h) ∧
  (∀ (l0 l1 l2 l3 l4 l5 : Option Value) (s0 : Nat) (s1 : Int32) (s2 : Int32) (s3 : Int32) (s4 : Nat) (h : sx_H), sx_Ev S 50 49 [l0, l1, l2, l3, l4, l5] [.ref s0, .int s1, .int s2, .int s3, .ref s4] h = (sx_fld h s0 0 2).bind fun v => sx_Ev S 50 52 [l0, l1, l2, l3, l4, l5] [v, .int s1, .int s2, .int s3, .ref s4] h) ∧
  (∀ (l0 l1 l2 l3 l4 l5 : Option Value) (s0 : Int32) (s1 : Int32) (s2 : Int32) (s3 : Int32) (s4 : Nat) (h : sx_H), sx_Ev S 50 52 [l0, l1, l2, l3, l4, l5] [.int s0, .int s1, .int s2, .int s3, .ref s4] h = sx_Ev S 50 53 [l0, l1, l2, l3, l4, l5] [.int (s1 * s0), .int s2, .int s3, .ref s4] h) ∧
  (∀ (l0 l1 l2 l3 l4 l5 : Option Value) (s0 : Int32) (s1 : Int32) (s2 : Int32) (s3 : Nat) (h : sx_H), sx_Ev S 50 53 [l0, l1, l2, l3, l4, l5] [.int s0, .int s1, .int s2, .ref s3] h = sx_Ev S 50 54 [l0, l1, l2, l3, l4, l5] [.int (s1 - s0), .int s2, .ref s3] h) ∧
  (∀ (l0 l1 l2 l3 l4 l5 : Option Value) (s0 : Int32) (s1 : Int32) (s2 : Nat) (h : sx_H), sx_Ev S 50 54 [l0, l1, l2, l3, l4, l5] [.int s0, .int s1, .ref s2] h = sx_back S 50 54 [l0, l1, l2, l3, l4, l5] [] (sx_Cl S 49 [.ref s2, .int s1, .int s0] h)) ∧
  (∀ (ls : sx_L) (st : List Value) (v : Value) (h : sx_H), sx_back S 50 54 ls st (some (.inl (some v), h)) = sx_Ev S 50 57 ls (v :: st) h) ∧
  (∀ (ls : sx_L) (st : List Value) (e : Nat) (h : sx_H), sx_back S 50 54 ls st (some (.inr e, h)) = some (.inr e, h)) ∧
  (∀ (l0 l1 l2 l3 l4 l5 : Option Value) (s0 : Int32) (h : sx_H), sx_Ev S 50 57 [l0, l1, l2, l3, l4, l5] [.int s0] h = if s0 = 0 then sx_Ev S 50 60 [l0, l1, l2, l3, l4, l5] [] h else sx_Ev S 50 64 [l0, l1, l2, l3, l4, l5] [] h) ∧
  (∀ (l0 l1 l2 l3 l4 l5 : Option Value) (h : sx_H), sx_Ev S 50 60 [l0, l1, l2, l3, l4, l5] [] h = sx_Ev S 50 61 [l0, l1, l2, l3, l4, l5] [.int (sz (1))] h) ∧
  (∀ (l0 l1 l2 l3 l4 l5 : Option Value) (s0 : Int32) (h : sx_H), sx_Ev S 50 61 [l0, l1, l2, l3, l4, l5] [.int s0] h = sx_Ev S 50 65 [l0, l1, l2, l3, l4, l5] [.int s0] h) ∧
  (∀ (l0 l1 l2 l3 l4 l5 : Option Value) (h : sx_H), sx_Ev S 50 64 [l0, l1, l2, l3, l4, l5] [] h = sx_Ev S 50 65 [l0, l1, l2, l3, l4, l5] [.int (sz (0))] h) ∧
  (∀ (l0 l1 l2 l3 l4 l5 : Option Value) (s0 : Int32) (h : sx_H), narrow .boolean (.int s0) = .int s0 → sx_Ev S 50 65 [l0, l1, l2, l3, l4, l5] [.int s0] h = some (.inl (some (.int s0)), h)) := ⟨fun _ _ _ _ _ _ _ => sx_e_nx rfl rfl,
  fun _ _ _ _ _ _ _ _ => sx_e_nx rfl rfl,
  fun _ _ _ _ _ _ _ _ _ hv => sx_e_virt rfl rfl ⟨Nat.le_of_ble_eq_true rfl, Nat.le_of_ble_eq_true rfl, rfl⟩ rfl rfl rfl hv,
  fun _ _ _ _ => rfl,
  fun _ _ _ _ => rfl,
  fun _ _ _ _ _ _ _ _ => sx_e_nx rfl rfl,
  fun _ _ _ _ _ _ _ _ _ => sx_e_nx rfl rfl,
  fun _ _ _ _ _ _ _ _ => sx_e_nx rfl rfl,
  fun _ _ _ _ _ _ _ => sx_e_nx rfl rfl,
  fun _ _ _ _ _ _ _ _ => sx_e_nx rfl rfl,
  fun _ _ _ _ _ _ _ _ _ => sx_e_ilt rfl (by decide) rfl,
  fun _ _ _ _ _ _ _ => sx_e_nx rfl rfl,
  fun _ _ _ _ _ _ _ _ => sx_e_nx rfl rfl,
  fun _ _ _ _ _ _ _ _ _ => sx_e_nx rfl rfl,
  fun _ _ _ _ _ _ _ _ _ _ hv => sx_e_virt rfl rfl ⟨Nat.le_of_ble_eq_true rfl, Nat.le_of_ble_eq_true rfl, rfl⟩ rfl rfl rfl hv,
  fun _ _ _ => rfl,
  fun _ _ _ _ => rfl,
  fun _ _ _ _ _ _ _ => sx_e_nx rfl rfl,
  fun _ _ _ _ _ _ _ _ hv => sx_e_ret rfl rfl hv,
  fun _ _ _ _ _ _ _ => sx_e_nx rfl rfl,
  fun _ _ _ _ _ _ _ _ => sx_e_nx rfl rfl,
  fun _ _ _ _ _ _ _ _ _ => sx_e_nx rfl rfl,
  fun _ _ _ _ _ _ _ _ _ _ hv => sx_e_virt rfl rfl ⟨Nat.le_of_ble_eq_true rfl, Nat.le_of_ble_eq_true rfl, rfl⟩ rfl rfl rfl hv,
  fun _ _ _ => rfl,
  fun _ _ _ _ => rfl,
  fun _ _ _ _ _ _ _ => sx_e_nx rfl rfl,
  fun _ _ _ _ _ _ _ _ => sx_e_nx rfl rfl,
  fun _ _ _ _ _ _ _ _ _ => sx_e_getf rfl rfl (by decide) rfl,
  fun _ _ _ _ _ _ _ _ _ => sx_e_nx rfl rfl,
  fun _ _ _ _ _ _ _ _ _ _ => sx_e_ca rfl rfl,
  fun _ _ _ _ => rfl,
  fun _ _ _ _ => rfl,
  fun _ _ _ _ _ _ _ _ _ => sx_e_div rfl rfl,
  fun _ _ _ _ _ _ _ _ => sx_e_nx rfl rfl,
  fun _ _ _ _ _ _ _ => sx_e_nx rfl rfl,
  fun _ _ _ _ _ _ _ _ => sx_e_nx rfl rfl,
  fun _ _ _ _ _ _ _ _ _ => sx_e_nx rfl rfl,
  fun _ _ _ _ _ _ _ _ _ _ => sx_e_nx rfl rfl,
  fun _ _ _ _ _ _ _ _ _ _ _ => sx_e_nx rfl rfl,
  fun _ _ _ _ _ _ _ _ _ _ _ _ => sx_e_getf rfl rfl (by decide) rfl,
  fun _ _ _ _ _ _ _ _ _ _ _ _ => sx_e_nx rfl rfl,
  fun _ _ _ _ _ _ _ _ _ _ _ => sx_e_nx rfl rfl,
  fun _ _ _ _ _ _ _ _ _ _ => sx_e_ca rfl rfl,
  fun _ _ _ _ => rfl,
  fun _ _ _ _ => rfl,
  fun _ _ _ _ _ _ _ _ => sx_e_ne rfl (by decide) rfl,
  fun _ _ _ _ _ _ _ => sx_e_nx rfl rfl,
  fun _ _ _ _ _ _ _ _ => sx_e_goto rfl (by decide),
  fun _ _ _ _ _ _ _ => sx_e_nx rfl rfl,
  fun _ _ _ _ _ _ _ _ hv => sx_e_ret rfl rfl hv⟩
/-- 51: X2_tryWays (LBeadslant$Cloth;IZ)I -/
theorem c51_q (S : List Int32) : ∀ (a0 : Nat) (a1 : Nat) (a2 : Int32) (a3 : Int32) (h : sx_H), sx_Cl S 51 [.ref a0, .ref a1, .int a2, .int a3] h = sx_Ev S 51 0 [some (.ref a0), some (.ref a1), some (.int a2), some (.int a3), none, none, none] [] h := fun _ _ _ _ _ => rfl
theorem h51_23 (S : List Int32) : (∀ (l0 l1 l2 l3 l4 l5 : Option Value) (x : Int32) (h : sx_H), sx_Ev S 51 23 [l0, l1, l2, l3, l4, l5, some (.int x)] [] h = sx_Ev S 51 25 [l0, l1, l2, l3, l4, l5, some (.int x)] [.int x] h) := fun _ _ _ _ _ _ _ _ => sx_e_nx rfl rfl
theorem q51_0 (S : List Int32) : (∀ (l0 l2 l3 l4 l5 l6 : Option Value) (x : Nat) (h : sx_H), sx_Ev S 51 0 [l0, some (.ref x), l2, l3, l4, l5, l6] [] h = sx_Ev S 51 1 [l0, some (.ref x), l2, l3, l4, l5, l6] [.ref x] h) ∧
  (∀ (l0 l1 l2 l3 l4 l5 l6 : Option Value) (s0 : Nat) (h : sx_H), sx_Ev S 51 1 [l0, l1, l2, l3, l4, l5, l6] [.ref s0] h = sx_back S 51 1 [l0, l1, l2, l3, l4, l5, l6] [] (sx_Cl S 48 [.ref s0] h)) ∧
  (∀ (ls : sx_L) (st : List Value) (v : Value) (h : sx_H), sx_back S 51 1 ls st (some (.inl (some v), h)) = sx_Ev S 51 4 ls (v :: st) h) ∧
  (∀ (ls : sx_L) (st : List Value) (e : Nat) (h : sx_H), sx_back S 51 1 ls st (some (.inr e, h)) = some (.inr e, h)) ∧
  (∀ (l0 l1 l2 l3 l4 l5 l6 : Option Value) (s0 : Int32) (h : sx_H), sx_Ev S 51 4 [l0, l1, l2, l3, l4, l5, l6] [.int s0] h = if 0 < s0 then sx_Ev S 51 7 [l0, l1, l2, l3, l4, l5, l6] [] h else sx_Ev S 51 9 [l0, l1, l2, l3, l4, l5, l6] [] h) ∧
  (∀ (l0 l1 l2 l3 l4 l5 l6 : Option Value) (h : sx_H), sx_Ev S 51 7 [l0, l1, l2, l3, l4, l5, l6] [] h = sx_Ev S 51 8 [l0, l1, l2, l3, l4, l5, l6] [.int (sz (0))] h) ∧
  (∀ (l0 l1 l2 l3 l4 l5 l6 : Option Value) (s0 : Int32) (h : sx_H), sx_Ev S 51 8 [l0, l1, l2, l3, l4, l5, l6] [.int s0] h = some (.inl (some (.int s0)), h)) ∧
  (∀ (l1 l2 l3 l4 l5 l6 : Option Value) (x : Nat) (h : sx_H), sx_Ev S 51 9 [some (.ref x), l1, l2, l3, l4, l5, l6] [] h = sx_Ev S 51 10 [some (.ref x), l1, l2, l3, l4, l5, l6] [.ref x] h) ∧
  (∀ (l0 l2 l3 l4 l5 l6 : Option Value) (s0 : Nat) (x : Nat) (h : sx_H), sx_Ev S 51 10 [l0, some (.ref x), l2, l3, l4, l5, l6] [.ref s0] h = sx_Ev S 51 11 [l0, some (.ref x), l2, l3, l4, l5, l6] [.ref x, .ref s0] h) ∧
  (∀ (l0 l1 l2 l3 l4 l5 l6 : Option Value) (s0 : Nat) (s1 : Nat) (h : sx_H), sx_klass h s1 = some 1 → sx_Ev S 51 11 [l0, l1, l2, l3, l4, l5, l6] [.ref s0, .ref s1] h = sx_back S 51 11 [l0, l1, l2, l3, l4, l5, l6] [] (sx_Cl S 41 [.ref s1, .ref s0] h)) ∧
  (∀ (ls : sx_L) (st : List Value) (h : sx_H), sx_back S 51 11 ls st (some (.inl none, h)) = sx_Ev S 51 14 ls st h) ∧
  (∀ (ls : sx_L) (st : List Value) (e : Nat) (h : sx_H), sx_back S 51 11 ls st (some (.inr e, h)) = some (.inr e, h)) ∧
  (∀ (l0 l1 l2 l3 l4 l5 l6 : Option Value) (h : sx_H), sx_Ev S 51 14 [l0, l1, l2, l3, l4, l5, l6] [] h = sx_Ev S 51 15 [l0, l1, l2, l3, l4, l5, l6] [.int (sz (0))] h) ∧
  (∀ (l0 l1 l2 l3 l4 l5 l6 : Option Value) (s0 : Int32) (h : sx_H), sx_Ev S 51 15 [l0, l1, l2, l3, l4, l5, l6] [.int s0] h = sx_Ev S 51 17 [l0, l1, l2, l3, some (.int s0), l5, l6] [] h) ∧
  (∀ (l0 l1 l2 l3 l4 l5 l6 : Option Value) (h : sx_H), sx_Ev S 51 17 [l0, l1, l2, l3, l4, l5, l6] [] h = sx_Ev S 51 18 [l0, l1, l2, l3, l4, l5, l6] [.int (sz (0))] h) ∧
  (∀ (l0 l1 l2 l3 l4 l5 l6 : Option Value) (s0 : Int32) (h : sx_H), sx_Ev S 51 18 [l0, l1, l2, l3, l4, l5, l6] [.int s0] h = sx_Ev S 51 20 [l0, l1, l2, l3, l4, some (.int s0), l6] [] h) ∧
  (∀ (l0 l1 l2 l3 l4 l5 l6 : Option Value) (h : sx_H), sx_Ev S 51 20 [l0, l1, l2, l3, l4, l5, l6] [] h = sx_Ev S 51 21 [l0, l1, l2, l3, l4, l5, l6] [.int (sz (0))] h) ∧
  (∀ (l0 l1 l2 l3 l4 l5 l6 : Option Value) (s0 : Int32) (h : sx_H), sx_Ev S 51 21 [l0, l1, l2, l3, l4, l5, l6] [.int s0] h = sx_Ev S 51 23 [l0, l1, l2, l3, l4, l5, some (.int s0)] [] h) ∧
  (∀ (l0 l1 l2 l3 l4 l5 l6 : Option Value) (s0 : Int32) (h : sx_H), sx_Ev S 51 25 [l0, l1, l2, l3, l4, l5, l6] [.int s0] h = sx_Ev S 51 27 [l0, l1, l2, l3, l4, l5, l6] [.int (sz (1000000)), .int s0] h) ∧
  (∀ (l0 l1 l2 l3 l4 l5 l6 : Option Value) (s0 : Int32) (s1 : Int32) (h : sx_H), sx_Ev S 51 27 [l0, l1, l2, l3, l4, l5, l6] [.int s0, .int s1] h = if s1 < s0 then sx_Ev S 51 30 [l0, l1, l2, l3, l4, l5, l6] [] h else sx_Ev S 51 113 [l0, l1, l2, l3, l4, l5, l6] [] h) ∧
  (∀ (l0 l1 l2 l3 l4 l6 : Option Value) (x : Int32) (h : sx_H), sx_Ev S 51 30 [l0, l1, l2, l3, l4, some (.int x), l6] [] h = sx_Ev S 51 32 [l0, l1, l2, l3, l4, some (.int x), l6] [.int x] h) ∧
  (∀ (l0 l1 l2 l3 l4 l5 l6 : Option Value) (s0 : Int32) (h : sx_H), sx_Ev S 51 32 [l0, l1, l2, l3, l4, l5, l6] [.int s0] h = if s0 < 0 then sx_Ev S 51 113 [l0, l1, l2, l3, l4, l5, l6] [] h else sx_Ev S 51 35 [l0, l1, l2, l3, l4, l5, l6] [] h) ∧
  (∀ (l0 l1 l2 l3 l4 l6 : Option Value) (x : Int32) (h : sx_H), sx_Ev S 51 35 [l0, l1, l2, l3, l4, some (.int x), l6] [] h = sx_Ev S 51 37 [l0, l1, l2, l3, l4, some (.int x), l6] [.int x] h) ∧
  (∀ (l1 l2 l3 l4 l5 l6 : Option Value) (s0 : Int32) (x : Nat) (h : sx_H), sx_Ev S 51 37 [some (.ref x), l1, l2, l3, l4, l5, l6] [.int s0] h = sx_Ev S 51 38 [some (.ref x), l1, l2, l3, l4, l5, l6] [.ref x, .int s0] h) ∧
  (∀ (l0 l1 l2 l3 l4 l5 l6 : Option Value) (s0 : Nat) (s1 : Int32) (h : sx_H), sx_Ev S 51 38 [l0, l1, l2, l3, l4, l5, l6] [.ref s0, .int s1] h = (sx_fld h s0 1 1).bind fun v => sx_Ev S 51 41 [l0, l1, l2, l3, l4, l5, l6] [v, .int s1] h) ∧
  (∀ (l0 l1 l2 l3 l4 l5 l6 : Option Value) (s0 : Int32) (s1 : Int32) (h : sx_H), sx_Ev S 51 41 [l0, l1, l2, l3, l4, l5, l6] [.int s0, .int s1] h = if s1 < s0 then sx_Ev S 51 44 [l0, l1, l2, l3, l4, l5, l6] [] h else sx_Ev S 51 51 [l0, l1, l2, l3, l4, l5, l6] [] h) ∧
  (∀ (l0 l1 l2 l3 l4 l6 : Option Value) (x : Int32) (h : sx_H), sx_Ev S 51 44 [l0, l1, l2, l3, l4, some (.int x), l6] [] h = sx_Ev S 51 46 [l0, l1, l2, l3, l4, some (.int x), l6] [.int x] h) ∧
  (∀ (l0 l1 l2 l3 l4 l5 l6 : Option Value) (s0 : Int32) (h : sx_H), sx_Ev S 51 46 [l0, l1, l2, l3, l4, l5, l6] [.int s0] h = sx_Ev S 51 48 [l0, l1, l2, l3, l4, l5, l6] [.int (sz (6)), .int s0] h) ∧
  (∀ (l0 l1 l2 l3 l4 l5 l6 : Option Value) (s0 : Int32) (s1 : Int32) (h : sx_H), sx_Ev S 51 48 [l0, l1, l2, l3, l4, l5, l6] [.int s0, .int s1] h = if s1 < s0 then sx_Ev S 51 67 [l0, l1, l2, l3, l4, l5, l6] [] h else sx_Ev S 51 51 [l0, l1, l2, l3, l4, l5, l6] [] h) ∧
  (∀ (l0 l1 l2 l3 l5 l6 : Option Value) (x : Int32) (h : sx_H), sx_Ev S 51 51 [l0, l1, l2, l3, some (.int x), l5, l6] [] h = sx_Ev S 51 54 [l0, l1, l2, l3, some (.int (x + sz (1))), l5, l6] [] h) ∧
  (∀ (l0 l1 l2 l4 l5 l6 : Option Value) (x : Int32) (h : sx_H), sx_Ev S 51 54 [l0, l1, l2, some (.int x), l4, l5, l6] [] h = sx_Ev S 51 55 [l0, l1, l2, some (.int x), l4, l5, l6] [.int x] h) ∧
  (∀ (l0 l1 l2 l3 l4 l5 l6 : Option Value) (s0 : Int32) (h : sx_H), sx_Ev S 51 55 [l0, l1, l2, l3, l4, l5, l6] [.int s0] h = if s0 = 0 then sx_Ev S 51 61 [l0, l1, l2, l3, l4, l5, l6] [] h else sx_Ev S 51 58 [l0, l1, l2, l3, l4, l5, l6] [] h) ∧
  (∀ (l0 l1 l2 l3 l5 l6 : Option Value) (x : Int32) (h : sx_H), sx_Ev S 51 58 [l0, l1, l2, l3, some (.int x), l5, l6] [] h = sx_Ev S 51 60 [l0, l1, l2, l3, some (.int x), l5, l6] [.int x] h) ∧
  (∀ (l0 l1 l2 l3 l4 l5 l6 : Option Value) (s0 : Int32) (h : sx_H), sx_Ev S 51 60 [l0, l1, l2, l3, l4, l5, l6] [.int s0] h = some (.inl (some (.int s0)), h)) ∧
  (∀ (l0 l1 l2 l3 l4 l6 : Option Value) (x : Int32) (h : sx_H), sx_Ev S 51 61 [l0, l1, l2, l3, l4, some (.int x), l6] [] h = sx_Ev S 51 64 [l0, l1, l2, l3, l4, some (.int (x + sz (-1))), l6] [] h) ∧
  (∀ (l0 l1 l2 l3 l4 l5 l6 : Option Value) (h : sx_H), sx_Ev S 51 64 [l0, l1, l2, l3, l4, l5, l6] [] h = sx_Ev S 51 107 [l0, l1, l2, l3, l4, l5, l6] [] h) ∧
  (∀ (l1 l2 l3 l4 l5 l6 : Option Value) (x : Nat) (h : sx_H), sx_Ev S 51 67 [some (.ref x), l1, l2, l3, l4, l5, l6] [] h = sx_Ev S 51 68 [some (.ref x), l1, l2, l3, l4, l5, l6] [.ref x] h) ∧
  (∀ (l0 l2 l3 l4 l5 l6 : Option Value) (s0 : Nat) (x : Nat) (h : sx_H), sx_Ev S 51 68 [l0, some (.ref x), l2, l3, l4, l5, l6] [.ref s0] h = sx_Ev S 51 69 [l0, some (.ref x), l2, l3, l4, l5, l6] [.ref x, .ref s0] h) ∧
  (∀ (l1 l2 l3 l4 l5 l6 : Option Value) (s0 : Nat) (s1 : Nat) (x : Nat) (h : sx_H), sx_Ev S 51 69 [some (.ref x), l1, l2, l3, l4, l5, l6] [.ref s0, .ref s1] h = sx_Ev S 51 70 [some (.ref x), l1, l2, l3, l4, l5, l6] [.ref x, .ref s0, .ref s1] h) ∧
  (∀ (l0 l1 l2 l3 l4 l5 l6 : Option Value) (s0 : Nat) (s1 : Nat) (s2 : Nat) (h : sx_H), sx_Ev S 51 70 [l0, l1, l2, l3, l4, l5, l6] [.ref s0, .ref s1, .ref s2] h = (sx_fld h s0 1 0).bind fun v => sx_Ev S 51 73 [l0, l1, l2, l3, l4, l5, l6] [v, .ref s1, .ref s2] h) ∧
  (∀ (l0 l1 l2 l3 l4 l6 : Option Value) (s0 : Nat) (s1 : Nat) (s2 : Nat) (x : Int32) (h : sx_H), sx_Ev S 51 73 [l0, l1, l2, l3, l4, some (.int x), l6] [.ref s0, .ref s1, .ref s2] h = sx_Ev S 51 75 [l0, l1, l2, l3, l4, some (.int x), l6] [.int x, .ref s0, .ref s1, .ref s2] h) ∧
  (∀ (l0 l1 l2 l3 l4 l5 l6 : Option Value) (s0 : Int32) (s1 : Nat) (s2 : Nat) (s3 : Nat) (h : sx_H), sx_Ev S 51 75 [l0, l1, l2, l3, l4, l5, l6] [.int s0, .ref s1, .ref s2, .ref s3] h = (sx_rd S h s1 s0).bind fun v => sx_Ev S 51 76 [l0, l1, l2, l3, l4, l5, l6] [.int v, .ref s2, .ref s3] h) ∧
  (∀ (l0 l1 l3 l4 l5 l6 : Option Value) (s0 : Int32) (s1 : Nat) (s2 : Nat) (x : Int32) (h : sx_H), sx_Ev S 51 76 [l0, l1, some (.int x), l3, l4, l5, l6] [.int s0, .ref s1, .ref s2] h = sx_Ev S 51 77 [l0, l1, some (.int x), l3, l4, l5, l6] [.int x, .int s0, .ref s1, .ref s2] h) ∧
  (∀ (l0 l1 l2 l3 l4 l5 l6 : Option Value) (s0 : Int32) (s1 : Int32) (s2 : Nat) (s3 : Nat) (h : sx_H), sx_klass h s3 = some 1 → sx_Ev S 51 77 [l0, l1, l2, l3, l4, l5, l6] [.int s0, .int s1, .ref s2, .ref s3] h = sx_back S 51 77 [l0, l1, l2, l3, l4, l5, l6] [] (sx_Cl S 50 [.ref s3, .ref s2, .int s1, .int s0] h)) ∧
  (∀ (ls : sx_L) (st : List Value) (v : Value) (h : sx_H), sx_back S 51 77 ls st (some (.inl (some v), h)) = sx_Ev S 51 80 ls (v :: st) h) ∧
  (∀ (ls : sx_L) (st : List Value) (e : Nat) (h : sx_H), sx_back S 51 77 ls st (some (.inr e, h)) = some (.inr e, h)) ∧
  (∀ (l0 l1 l2 l3 l4 l5 l6 : Option Value) (s0 : Int32) (h : sx_H), sx_Ev S 51 80 [l0, l1, l2, l3, l4, l5, l6] [.int s0] h = if s0 = 0 then sx_Ev S 51 89 [l0, l1, l2, l3, l4, l5, l6] [] h else sx_Ev S 51 83 [l0, l1, l2, l3, l4, l5, l6] [] h) ∧
  (∀ (l0 l1 l2 l3 l4 l6 : Option Value) (x : Int32) (h : sx_H), sx_Ev S 51 83 [l0, l1, l2, l3, l4, some (.int x), l6] [] h = sx_Ev S 51 86 [l0, l1, l2, l3, l4, some (.int (x + sz (1))), l6] [] h) ∧
  (∀ (l0 l1 l2 l3 l4 l5 l6 : Option Value) (h : sx_H), sx_Ev S 51 86 [l0, l1, l2, l3, l4, l5, l6] [] h = sx_Ev S 51 107 [l0, l1, l2, l3, l4, l5, l6] [] h) ∧
  (∀ (l0 l2 l3 l4 l5 l6 : Option Value) (x : Nat) (h : sx_H), sx_Ev S 51 89 [l0, some (.ref x), l2, l3, l4, l5, l6] [] h = sx_Ev S 51 90 [l0, some (.ref x), l2, l3, l4, l5, l6] [.ref x] h) ∧
  (∀ (l1 l2 l3 l4 l5 l6 : Option Value) (s0 : Nat) (x : Nat) (h : sx_H), sx_Ev S 51 90 [some (.ref x), l1, l2, l3, l4, l5, l6] [.ref s0] h = sx_Ev S 51 91 [some (.ref x), l1, l2, l3, l4, l5, l6] [.ref x, .ref s0] h) ∧
  (∀ (l0 l1 l2 l3 l4 l5 l6 : Option Value) (s0 : Nat) (s1 : Nat) (h : sx_H), sx_Ev S 51 91 [l0, l1, l2, l3, l4, l5, l6] [.ref s0, .ref s1] h = (sx_fld h s0 1 0).bind fun v => sx_Ev S 51 94 [l0, l1, l2, l3, l4, l5, l6] [v, .ref s1] h) ∧
  (∀ (l0 l1 l2 l3 l4 l6 : Option Value) (s0 : Nat) (s1 : Nat) (x : Int32) (h : sx_H), sx_Ev S 51 94 [l0, l1, l2, l3, l4, some (.int x), l6] [.ref s0, .ref s1] h = sx_Ev S 51 96 [l0, l1, l2, l3, l4, some (.int x), l6] [.int x, .ref s0, .ref s1] h) ∧
  (∀ (l0 l1 l2 l3 l4 l5 l6 : Option Value) (s0 : Int32) (s1 : Nat) (s2 : Nat) (h : sx_H), sx_Ev S 51 96 [l0, l1, l2, l3, l4, l5, l6] [.int s0, .ref s1, .ref s2] h = (sx_rd S h s1 s0).bind fun v => sx_Ev S 51 97 [l0, l1, l2, l3, l4, l5, l6] [.int v, .ref s2] h) ∧
  (∀ (l0 l1 l2 l3 l4 l5 l6 : Option Value) (s0 : Int32) (s1 : Nat) (h : sx_H), sx_klass h s1 = some 0 → sx_Ev S 51 97 [l0, l1, l2, l3, l4, l5, l6] [.int s0, .ref s1] h = sx_back S 51 97 [l0, l1, l2, l3, l4, l5, l6] [] (sx_Cl S 27 [.ref s1, .int s0] h)) ∧
  (∀ (ls : sx_L) (st : List Value) (v : Value) (h : sx_H), sx_back S 51 97 ls st (some (.inl (some v), h)) = sx_Ev S 51 100 ls (v :: st) h) ∧
  (∀ (ls : sx_L) (st : List Value) (e : Nat) (h : sx_H), sx_back S 51 97 ls st (some (.inr e, h)) = some (.inr e, h)) ∧
  (∀ (l0 l1 l2 l3 l4 l5 l6 : Option Value) (s0 : Int32) (h : sx_H), sx_Ev S 51 100 [l0, l1, l2, l3, l4, l5, l6] [.int s0] h = sx_Ev S 51 101 [l0, l1, l2, l3, l4, l5, l6] [.int (sz (-1)), .int s0] h) ∧
  (∀ (l0 l1 l2 l3 l4 l5 l6 : Option Value) (s0 : Int32) (s1 : Int32) (h : sx_H), sx_Ev S 51 101 [l0, l1, l2, l3, l4, l5, l6] [.int s0, .int s1] h = if s1 = s0 then sx_Ev S 51 104 [l0, l1, l2, l3, l4, l5, l6] [] h else sx_Ev S 51 107 [l0, l1, l2, l3, l4, l5, l6] [] h) ∧
  (∀ (l0 l1 l2 l3 l4 l6 : Option Value) (x : Int32) (h : sx_H), sx_Ev S 51 104 [l0, l1, l2, l3, l4, some (.int x), l6] [] h = sx_Ev S 51 107 [l0, l1, l2, l3, l4, some (.int (x + sz (-1))), l6] [] h) := ⟨fun _ _ _ _ _ _ _ _ => sx_e_nx rfl rfl,
  fun _ _ _ _ _ _ _ _ _ => sx_e_ca rfl rfl,
  fun _ _ _ _ => rfl,
  fun _ _ _ _ => rfl,
  fun _ _ _ _ _ _ _ _ _ => sx_e_le rfl (by decide) rfl,
  fun _ _ _ _ _ _ _ _ => sx_e_nx rfl rfl,
  fun _ _ _ _ _ _ _ _ _ => sx_e_ret rfl rfl rfl,
  fun _ _ _ _ _ _ _ _ => sx_e_nx rfl rfl,
  fun _ _ _ _ _ _ _ _ _ => sx_e_nx rfl rfl,
  fun _ _ _ _ _ _ _ _ _ _ hv => sx_e_virt rfl rfl ⟨Nat.le_of_ble_eq_true rfl, Nat.le_of_ble_eq_true rfl, rfl⟩ rfl rfl rfl hv,
  fun _ _ _ => rfl,
  fun _ _ _ _ => rfl,
  fun _ _ _ _ _ _ _ _ => sx_e_nx rfl rfl,
  fun _ _ _ _ _ _ _ _ _ => sx_e_nx rfl rfl,
  fun _ _ _ _ _ _ _ _ => sx_e_nx rfl rfl,
  fun _ _ _ _ _ _ _ _ _ => sx_e_nx rfl rfl,
  fun _ _ _ _ _ _ _ _ => sx_e_nx rfl rfl,
  fun _ _ _ _ _ _ _ _ _ => sx_e_nx rfl rfl,
  fun _ _ _ _ _ _ _ _ _ => sx_e_ldc rfl rfl (by decide +kernel) rfl,
  fun _ _ _ _ _ _ _ _ _ _ => sx_e_ige rfl (by decide) rfl,
  fun _ _ _ _ _ _ _ _ => sx_e_nx rfl rfl,
  fun _ _ _ _ _ _ _ _ _ => sx_e_lt rfl (by decide) rfl,
  fun _ _ _ _ _ _ _ _ => sx_e_nx rfl rfl,
  fun _ _ _ _ _ _ _ _ _ => sx_e_nx rfl rfl,
  fun _ _ _ _ _ _ _ _ _ _ => sx_e_getf rfl rfl (by decide) rfl,
  fun _ _ _ _ _ _ _ _ _ _ => sx_e_ige rfl (by decide) rfl,
  fun _ _ _ _ _ _ _ _ => sx_e_nx rfl rfl,
  fun _ _ _ _ _ _ _ _ _ => sx_e_bi rfl (by decide +kernel) rfl,
  fun _ _ _ _ _ _ _ _ _ _ => sx_e_ilt rfl (by decide) rfl,
  fun _ _ _ _ _ _ _ _ => sx_e_nx rfl rfl,
  fun _ _ _ _ _ _ _ _ => sx_e_nx rfl rfl,
  fun _ _ _ _ _ _ _ _ _ => sx_e_eq rfl (by decide) rfl,
  fun _ _ _ _ _ _ _ _ => sx_e_nx rfl rfl,
  fun _ _ _ _ _ _ _ _ _ => sx_e_ret rfl rfl rfl,
  fun _ _ _ _ _ _ _ _ => sx_e_nx rfl rfl,
  fun _ _ _ _ _ _ _ _ => sx_e_goto rfl (by decide),
  fun _ _ _ _ _ _ _ _ => sx_e_nx rfl rfl,
  fun _ _ _ _ _ _ _ _ _ => sx_e_nx rfl rfl,
  fun _ _ _ _ _ _ _ _ _ _ => sx_e_nx rfl rfl,
  fun _ _ _ _ _ _ _ _ _ _ _ => sx_e_getf rfl rfl (by decide) rfl,
  fun _ _ _ _ _ _ _ _ _ _ _ => sx_e_nx rfl rfl,
  fun _ _ _ _ _ _ _ _ _ _ _ _ => sx_e_iald rfl rfl,
  fun _ _ _ _ _ _ _ _ _ _ _ => sx_e_nx rfl rfl,
  fun _ _ _ _ _ _ _ _ _ _ _ _ hv => sx_e_virt rfl rfl ⟨Nat.le_of_ble_eq_true rfl, Nat.le_of_ble_eq_true rfl, rfl⟩ rfl rfl rfl hv,
  fun _ _ _ _ => rfl,
  fun _ _ _ _ => rfl,
  fun _ _ _ _ _ _ _ _ _ => sx_e_eq rfl (by decide) rfl,
  fun _ _ _ _ _ _ _ _ => sx_e_nx rfl rfl,
  fun _ _ _ _ _ _ _ _ => sx_e_goto rfl (by decide),
  fun _ _ _ _ _ _ _ _ => sx_e_nx rfl rfl,
  fun _ _ _ _ _ _ _ _ _ => sx_e_nx rfl rfl,
  fun _ _ _ _ _ _ _ _ _ _ => sx_e_getf rfl rfl (by decide) rfl,
  fun _ _ _ _ _ _ _ _ _ _ => sx_e_nx rfl rfl,
  fun _ _ _ _ _ _ _ _ _ _ _ => sx_e_iald rfl rfl,
  fun _ _ _ _ _ _ _ _ _ _ hv => sx_e_virt rfl rfl ⟨Nat.le_of_ble_eq_true rfl, Nat.le_of_ble_eq_true rfl, rfl⟩ rfl rfl rfl hv,
  fun _ _ _ _ => rfl,
  fun _ _ _ _ => rfl,
  fun _ _ _ _ _ _ _ _ _ => sx_e_nx rfl rfl,
  fun _ _ _ _ _ _ _ _ _ _ => sx_e_ine rfl (by decide) rfl,
  fun _ _ _ _ _ _ _ _ => sx_e_nx rfl rfl⟩
theorem q51_1 (S : List Int32) : (∀ (l0 l1 l2 l3 l4 l5 : Option Value) (x : Int32) (h : sx_H), sx_Ev S 51 107 [l0, l1, l2, l3, l4, l5, some (.int x)] [] h = sx_Ev S 51 110 [l0, l1, l2, l3, l4, l5, some (.int (x + sz (1)))] [] h) ∧
  (∀ (l0 l1 l2 l3 l4 l5 l6 : Option Value) (h : sx_H), sx_Ev S 51 110 [l0, l1, l2, l3, l4, l5, l6] [] h = sx_Ev S 51 23 [l0, l1, l2, l3, l4, l5, l6] [] h) ∧
  (∀ (l0 l1 l2 l3 l5 l6 : Option Value) (x : Int32) (h : sx_H), sx_Ev S 51 113 [l0, l1, l2, l3, some (.int x), l5, l6] [] h = sx_Ev S 51 115 [l0, l1, l2, l3, some (.int x), l5, l6] [.int x] h) ∧
  (∀ (l0 l1 l2 l3 l4 l5 l6 : Option Value) (s0 : Int32) (h : sx_H), sx_Ev S 51 115 [l0, l1, l2, l3, l4, l5, l6] [.int s0] h = some (.inl (some (.int s0)), h)) := ⟨fun _ _ _ _ _ _ _ _ => sx_e_nx rfl rfl,
  fun _ _ _ _ _ _ _ _ => sx_e_goto rfl (by decide),
  fun _ _ _ _ _ _ _ _ => sx_e_nx rfl rfl,
  fun _ _ _ _ _ _ _ _ _ => sx_e_ret rfl rfl rfl⟩
/-- 52: X3_init ()V -/
theorem c52_q (S : List Int32) : ∀ (a0 : Nat) (h : sx_H), sx_Cl S 52 [.ref a0] h = sx_Ev S 52 0 [some (.ref a0)] [] h := fun _ _ => rfl
theorem q52 (S : List Int32) : (∀ (x : Nat) (h : sx_H), sx_Ev S 52 0 [some (.ref x)] [] h = sx_Ev S 52 1 [some (.ref x)] [.ref x] h) ∧
  (∀ (l0 : Option Value) (s0 : Nat) (h : sx_H), sx_Ev S 52 1 [l0] [.ref s0] h = sx_Ev S 52 4 [l0] [] h) ∧
  (∀ (x : Nat) (h : sx_H), sx_Ev S 52 4 [some (.ref x)] [] h = sx_Ev S 52 5 [some (.ref x)] [.ref x] h) ∧
  (∀ (l0 : Option Value) (s0 : Nat) (h : sx_H), sx_Ev S 52 5 [l0] [.ref s0] h = sx_Ev S 52 7 [l0] [.int (sz (8)), .ref s0] h) ∧
  (∀ (l0 : Option Value) (s0 : Int32) (s1 : Nat) (h : sx_H), sx_Ev S 52 7 [l0] [.int s0, .ref s1] h = if s0 < 0 ∨ 65536 < s0.toNatClampNeg then none else sx_Ev S 52 9 [l0] [.ref (sx_new h), .ref s1] (sx_push h (some (.inl (List.replicate s0.toNatClampNeg 0))) s0.toNatClampNeg)) ∧
  (∀ (l0 : Option Value) (s0 : Nat) (s1 : Nat) (h : sx_H), sx_Ev S 52 9 [l0] [.ref s0, .ref s1] h = (sx_fst h s1 2 0 (.ref s0)).bind fun h => sx_Ev S 52 12 [l0] [] h) ∧
  (∀ (x : Nat) (h : sx_H), sx_Ev S 52 12 [some (.ref x)] [] h = sx_Ev S 52 13 [some (.ref x)] [.ref x] h) ∧
  (∀ (l0 : Option Value) (s0 : Nat) (h : sx_H), sx_Ev S 52 13 [l0] [.ref s0] h = sx_Ev S 52 15 [l0] [.int (sz (8)), .ref s0] h) ∧
  (∀ (l0 : Option Value) (s0 : Int32) (s1 : Nat) (h : sx_H), sx_Ev S 52 15 [l0] [.int s0, .ref s1] h = if s0 < 0 ∨ 65536 < s0.toNatClampNeg then none else sx_Ev S 52 17 [l0] [.ref (sx_new h), .ref s1] (sx_push h (some (.inl (List.replicate s0.toNatClampNeg 0))) s0.toNatClampNeg)) ∧
  (∀ (l0 : Option Value) (s0 : Nat) (s1 : Nat) (h : sx_H), sx_Ev S 52 17 [l0] [.ref s0, .ref s1] h = (sx_fst h s1 2 1 (.ref s0)).bind fun h => sx_Ev S 52 20 [l0] [] h) ∧
  (∀ (x : Nat) (h : sx_H), sx_Ev S 52 20 [some (.ref x)] [] h = sx_Ev S 52 21 [some (.ref x)] [.ref x] h) ∧
  (∀ (l0 : Option Value) (s0 : Nat) (h : sx_H), sx_Ev S 52 21 [l0] [.ref s0] h = sx_Ev S 52 23 [l0] [.int (sz (8)), .ref s0] h) ∧
  (∀ (l0 : Option Value) (s0 : Int32) (s1 : Nat) (h : sx_H), sx_Ev S 52 23 [l0] [.int s0, .ref s1] h = if s0 < 0 ∨ 65536 < s0.toNatClampNeg then none else sx_Ev S 52 25 [l0] [.ref (sx_new h), .ref s1] (sx_push h (some (.inl (List.replicate s0.toNatClampNeg 0))) s0.toNatClampNeg)) ∧
  (∀ (l0 : Option Value) (s0 : Nat) (s1 : Nat) (h : sx_H), sx_Ev S 52 25 [l0] [.ref s0, .ref s1] h = (sx_fst h s1 2 2 (.ref s0)).bind fun h => sx_Ev S 52 28 [l0] [] h) ∧
  (∀ (x : Nat) (h : sx_H), sx_Ev S 52 28 [some (.ref x)] [] h = sx_Ev S 52 29 [some (.ref x)] [.ref x] h) ∧
  (∀ (l0 : Option Value) (s0 : Nat) (h : sx_H), sx_Ev S 52 29 [l0] [.ref s0] h = sx_Ev S 52 31 [l0] [.int (sz (8)), .ref s0] h) ∧
  (∀ (l0 : Option Value) (s0 : Int32) (s1 : Nat) (h : sx_H), sx_Ev S 52 31 [l0] [.int s0, .ref s1] h = if s0 < 0 ∨ 65536 < s0.toNatClampNeg then none else sx_Ev S 52 33 [l0] [.ref (sx_new h), .ref s1] (sx_push h (some (.inl (List.replicate s0.toNatClampNeg 0))) s0.toNatClampNeg)) ∧
  (∀ (l0 : Option Value) (s0 : Nat) (s1 : Nat) (h : sx_H), sx_Ev S 52 33 [l0] [.ref s0, .ref s1] h = (sx_fst h s1 2 3 (.ref s0)).bind fun h => sx_Ev S 52 36 [l0] [] h) ∧
  (∀ (x : Nat) (h : sx_H), sx_Ev S 52 36 [some (.ref x)] [] h = sx_Ev S 52 37 [some (.ref x)] [.ref x] h) ∧
  (∀ (l0 : Option Value) (s0 : Nat) (h : sx_H), sx_Ev S 52 37 [l0] [.ref s0] h = sx_Ev S 52 39 [l0] [.int (sz (8)), .ref s0] h) ∧
  (∀ (l0 : Option Value) (s0 : Int32) (s1 : Nat) (h : sx_H), sx_Ev S 52 39 [l0] [.int s0, .ref s1] h = if s0 < 0 ∨ 65536 < s0.toNatClampNeg then none else sx_Ev S 52 41 [l0] [.ref (sx_new h), .ref s1] (sx_push h (some (.inl (List.replicate s0.toNatClampNeg 0))) s0.toNatClampNeg)) ∧
  (∀ (l0 : Option Value) (s0 : Nat) (s1 : Nat) (h : sx_H), sx_Ev S 52 41 [l0] [.ref s0, .ref s1] h = (sx_fst h s1 2 4 (.ref s0)).bind fun h => sx_Ev S 52 44 [l0] [] h) ∧
  (∀ (l0 : Option Value) (h : sx_H), sx_Ev S 52 44 [l0] [] h = some (.inl none, h)) := ⟨fun _ _ => sx_e_nx rfl rfl,
  fun _ _ _ => sx_e_nx rfl rfl,
  fun _ _ => sx_e_nx rfl rfl,
  fun _ _ _ => sx_e_bi rfl (by decide +kernel) rfl,
  fun _ _ _ _ => sx_e_newa rfl rfl,
  fun _ _ _ _ => sx_e_putf rfl rfl (by decide +kernel) ⟨rfl, rfl⟩ rfl,
  fun _ _ => sx_e_nx rfl rfl,
  fun _ _ _ => sx_e_bi rfl (by decide +kernel) rfl,
  fun _ _ _ _ => sx_e_newa rfl rfl,
  fun _ _ _ _ => sx_e_putf rfl rfl (by decide +kernel) ⟨rfl, rfl⟩ rfl,
  fun _ _ => sx_e_nx rfl rfl,
  fun _ _ _ => sx_e_bi rfl (by decide +kernel) rfl,
  fun _ _ _ _ => sx_e_newa rfl rfl,
  fun _ _ _ _ => sx_e_putf rfl rfl (by decide +kernel) ⟨rfl, rfl⟩ rfl,
  fun _ _ => sx_e_nx rfl rfl,
  fun _ _ _ => sx_e_bi rfl (by decide +kernel) rfl,
  fun _ _ _ _ => sx_e_newa rfl rfl,
  fun _ _ _ _ => sx_e_putf rfl rfl (by decide +kernel) ⟨rfl, rfl⟩ rfl,
  fun _ _ => sx_e_nx rfl rfl,
  fun _ _ _ => sx_e_bi rfl (by decide +kernel) rfl,
  fun _ _ _ _ => sx_e_newa rfl rfl,
  fun _ _ _ _ => sx_e_putf rfl rfl (by decide +kernel) ⟨rfl, rfl⟩ rfl,
  fun _ _ => sx_e_dn rfl rfl⟩
/-- 53: X3_size ()I -/
theorem c53_q (S : List Int32) : ∀ (a0 : Nat) (h : sx_H), sx_Cl S 53 [.ref a0] h = sx_Ev S 53 0 [some (.ref a0)] [] h := fun _ _ => rfl
theorem q53 (S : List Int32) : (∀ (x : Nat) (h : sx_H), sx_Ev S 53 0 [some (.ref x)] [] h = sx_Ev S 53 1 [some (.ref x)] [.ref x] h) ∧
  (∀ (l0 : Option Value) (s0 : Nat) (h : sx_H), sx_Ev S 53 1 [l0] [.ref s0] h = (sx_fld h s0 2 5).bind fun v => sx_Ev S 53 4 [l0] [v] h) ∧
  (∀ (l0 : Option Value) (s0 : Int32) (h : sx_H), sx_Ev S 53 4 [l0] [.int s0] h = some (.inl (some (.int s0)), h)) := ⟨fun _ _ => sx_e_nx rfl rfl,
  fun _ _ _ => sx_e_getf rfl rfl (by decide) rfl,
  fun _ _ _ => sx_e_ret rfl rfl rfl⟩
/-- 54: X3_isFull ()Z -/
theorem c54_q (S : List Int32) : ∀ (a0 : Nat) (h : sx_H), sx_Cl S 54 [.ref a0] h = sx_Ev S 54 0 [some (.ref a0)] [] h := fun _ _ => rfl
theorem q54 (S : List Int32) : (∀ (x : Nat) (h : sx_H), sx_Ev S 54 0 [some (.ref x)] [] h = sx_Ev S 54 1 [some (.ref x)] [.ref x] h) ∧
  (∀ (l0 : Option Value) (s0 : Nat) (h : sx_H), sx_Ev S 54 1 [l0] [.ref s0] h = (sx_fld h s0 2 5).bind fun v => sx_Ev S 54 4 [l0] [v] h) ∧
  (∀ (l0 : Option Value) (s0 : Int32) (h : sx_H), sx_Ev S 54 4 [l0] [.int s0] h = sx_Ev S 54 6 [l0] [.int (sz (8)), .int s0] h) ∧
  (∀ (l0 : Option Value) (s0 : Int32) (s1 : Int32) (h : sx_H), sx_Ev S 54 6 [l0] [.int s0, .int s1] h = if s1 < s0 then sx_Ev S 54 13 [l0] [] h else sx_Ev S 54 9 [l0] [] h) ∧
  (∀ (l0 : Option Value) (h : sx_H), sx_Ev S 54 9 [l0] [] h = sx_Ev S 54 10 [l0] [.int (sz (1))] h) ∧
  (∀ (l0 : Option Value) (s0 : Int32) (h : sx_H), sx_Ev S 54 10 [l0] [.int s0] h = sx_Ev S 54 14 [l0] [.int s0] h) ∧
  (∀ (l0 : Option Value) (h : sx_H), sx_Ev S 54 13 [l0] [] h = sx_Ev S 54 14 [l0] [.int (sz (0))] h) ∧
  (∀ (l0 : Option Value) (s0 : Int32) (h : sx_H), narrow .boolean (.int s0) = .int s0 → sx_Ev S 54 14 [l0] [.int s0] h = some (.inl (some (.int s0)), h)) := ⟨fun _ _ => sx_e_nx rfl rfl,
  fun _ _ _ => sx_e_getf rfl rfl (by decide) rfl,
  fun _ _ _ => sx_e_bi rfl (by decide +kernel) rfl,
  fun _ _ _ _ => sx_e_ilt rfl (by decide) rfl,
  fun _ _ => sx_e_nx rfl rfl,
  fun _ _ _ => sx_e_goto rfl (by decide),
  fun _ _ => sx_e_nx rfl rfl,
  fun _ _ _ hv => sx_e_ret rfl rfl hv⟩
/-- 55: X3_put (IIII)I -/
theorem c55_q (S : List Int32) : ∀ (a0 : Nat) (a1 : Int32) (a2 : Int32) (a3 : Int32) (a4 : Int32) (h : sx_H), sx_Cl S 55 [.ref a0, .int a1, .int a2, .int a3, .int a4] h = sx_Ev S 55 0 [some (.ref a0), some (.int a1), some (.int a2), some (.int a3), some (.int a4)] [] h := fun _ _ _ _ _ _ => rfl
theorem q55 (S : List Int32) : (∀ (l1 l2 l3 l4 : Option Value) (x : Nat) (h : sx_H), sx_Ev S 55 0 [some (.ref x), l1, l2, l3, l4] [] h = sx_Ev S 55 1 [some (.ref x), l1, l2, l3, l4] [.ref x] h) ∧
  (∀ (l0 l1 l2 l3 l4 : Option Value) (s0 : Nat) (h : sx_H), sx_klass h s0 = some 2 → sx_Ev S 55 1 [l0, l1, l2, l3, l4] [.ref s0] h = sx_back S 55 1 [l0, l1, l2, l3, l4] [] (sx_Cl S 54 [.ref s0] h)) ∧
  (∀ (ls : sx_L) (st : List Value) (v : Value) (h : sx_H), sx_back S 55 1 ls st (some (.inl (some v), h)) = sx_Ev S 55 4 ls (v :: st) h) ∧
  (∀ (ls : sx_L) (st : List Value) (e : Nat) (h : sx_H), sx_back S 55 1 ls st (some (.inr e, h)) = some (.inr e, h)) ∧
  (∀ (l0 l1 l2 l3 l4 : Option Value) (s0 : Int32) (h : sx_H), sx_Ev S 55 4 [l0, l1, l2, l3, l4] [.int s0] h = if s0 = 0 then sx_Ev S 55 9 [l0, l1, l2, l3, l4] [] h else sx_Ev S 55 7 [l0, l1, l2, l3, l4] [] h) ∧
  (∀ (l0 l1 l2 l3 l4 : Option Value) (h : sx_H), sx_Ev S 55 7 [l0, l1, l2, l3, l4] [] h = sx_Ev S 55 8 [l0, l1, l2, l3, l4] [.int (sz (-1))] h) ∧
  (∀ (l0 l1 l2 l3 l4 : Option Value) (s0 : Int32) (h : sx_H), sx_Ev S 55 8 [l0, l1, l2, l3, l4] [.int s0] h = some (.inl (some (.int s0)), h)) ∧
  (∀ (l1 l2 l3 l4 : Option Value) (x : Nat) (h : sx_H), sx_Ev S 55 9 [some (.ref x), l1, l2, l3, l4] [] h = sx_Ev S 55 10 [some (.ref x), l1, l2, l3, l4] [.ref x] h) ∧
  (∀ (l0 l1 l2 l3 l4 : Option Value) (s0 : Nat) (h : sx_H), sx_Ev S 55 10 [l0, l1, l2, l3, l4] [.ref s0] h = (sx_fld h s0 2 0).bind fun v => sx_Ev S 55 13 [l0, l1, l2, l3, l4] [v] h) ∧
  (∀ (l1 l2 l3 l4 : Option Value) (s0 : Nat) (x : Nat) (h : sx_H), sx_Ev S 55 13 [some (.ref x), l1, l2, l3, l4] [.ref s0] h = sx_Ev S 55 14 [some (.ref x), l1, l2, l3, l4] [.ref x, .ref s0] h) ∧
  (∀ (l0 l1 l2 l3 l4 : Option Value) (s0 : Nat) (s1 : Nat) (h : sx_H), sx_Ev S 55 14 [l0, l1, l2, l3, l4] [.ref s0, .ref s1] h = (sx_fld h s0 2 5).bind fun v => sx_Ev S 55 17 [l0, l1, l2, l3, l4] [v, .ref s1] h) ∧
  (∀ (l0 l2 l3 l4 : Option Value) (s0 : Int32) (s1 : Nat) (x : Int32) (h : sx_H), sx_Ev S 55 17 [l0, some (.int x), l2, l3, l4] [.int s0, .ref s1] h = sx_Ev S 55 18 [l0, some (.int x), l2, l3, l4] [.int x, .int s0, .ref s1] h) ∧
  (∀ (l0 l1 l2 l3 l4 : Option Value) (s0 : Int32) (s1 : Int32) (s2 : Nat) (h : sx_H), sx_Ev S 55 18 [l0, l1, l2, l3, l4] [.int s0, .int s1, .ref s2] h = (sx_wr h s2 s1 s0).bind fun h => sx_Ev S 55 19 [l0, l1, l2, l3, l4] [] h) ∧
  (∀ (l1 l2 l3 l4 : Option Value) (x : Nat) (h : sx_H), sx_Ev S 55 19 [some (.ref x), l1, l2, l3, l4] [] h = sx_Ev S 55 20 [some (.ref x), l1, l2, l3, l4] [.ref x] h) ∧
  (∀ (l0 l1 l2 l3 l4 : Option Value) (s0 : Nat) (h : sx_H), sx_Ev S 55 20 [l0, l1, l2, l3, l4] [.ref s0] h = (sx_fld h s0 2 1).bind fun v => sx_Ev S 55 23 [l0, l1, l2, l3, l4] [v] h) ∧
  (∀ (l1 l2 l3 l4 : Option Value) (s0 : Nat) (x : Nat) (h : sx_H), sx_Ev S 55 23 [some (.ref x), l1, l2, l3, l4] [.ref s0] h = sx_Ev S 55 24 [some (.ref x), l1, l2, l3, l4] [.ref x, .ref s0] h) ∧
  (∀ (l0 l1 l2 l3 l4 : Option Value) (s0 : Nat) (s1 : Nat) (h : sx_H), sx_Ev S 55 24 [l0, l1, l2, l3, l4] [.ref s0, .ref s1] h = (sx_fld h s0 2 5).bind fun v => sx_Ev S 55 27 [l0, l1, l2, l3, l4] [v, .ref s1] h) ∧
  (∀ (l0 l1 l3 l4 : Option Value) (s0 : Int32) (s1 : Nat) (x : Int32) (h : sx_H), sx_Ev S 55 27 [l0, l1, some (.int x), l3, l4] [.int s0, .ref s1] h = sx_Ev S 55 28 [l0, l1, some (.int x), l3, l4] [.int x, .int s0, .ref s1] h) ∧
  (∀ (l0 l1 l2 l3 l4 : Option Value) (s0 : Int32) (s1 : Int32) (s2 : Nat) (h : sx_H), sx_Ev S 55 28 [l0, l1, l2, l3, l4] [.int s0, .int s1, .ref s2] h = (sx_wr h s2 s1 s0).bind fun h => sx_Ev S 55 29 [l0, l1, l2, l3, l4] [] h) ∧
  (∀ (l1 l2 l3 l4 : Option Value) (x : Nat) (h : sx_H), sx_Ev S 55 29 [some (.ref x), l1, l2, l3, l4] [] h = sx_Ev S 55 30 [some (.ref x), l1, l2, l3, l4] [.ref x] h) ∧
  (∀ (l0 l1 l2 l3 l4 : Option Value) (s0 : Nat) (h : sx_H), sx_Ev S 55 30 [l0, l1, l2, l3, l4] [.ref s0] h = (sx_fld h s0 2 2).bind fun v => sx_Ev S 55 33 [l0, l1, l2, l3, l4] [v] h) ∧
  (∀ (l1 l2 l3 l4 : Option Value) (s0 : Nat) (x : Nat) (h : sx_H), sx_Ev S 55 33 [some (.ref x), l1, l2, l3, l4] [.ref s0] h = sx_Ev S 55 34 [some (.ref x), l1, l2, l3, l4] [.ref x, .ref s0] h) ∧
  (∀ (l0 l1 l2 l3 l4 : Option Value) (s0 : Nat) (s1 : Nat) (h : sx_H), sx_Ev S 55 34 [l0, l1, l2, l3, l4] [.ref s0, .ref s1] h = (sx_fld h s0 2 5).bind fun v => sx_Ev S 55 37 [l0, l1, l2, l3, l4] [v, .ref s1] h) ∧
  (∀ (l0 l1 l2 l4 : Option Value) (s0 : Int32) (s1 : Nat) (x : Int32) (h : sx_H), sx_Ev S 55 37 [l0, l1, l2, some (.int x), l4] [.int s0, .ref s1] h = sx_Ev S 55 38 [l0, l1, l2, some (.int x), l4] [.int x, .int s0, .ref s1] h) ∧
  (∀ (l0 l1 l2 l3 l4 : Option Value) (s0 : Int32) (s1 : Int32) (s2 : Nat) (h : sx_H), sx_Ev S 55 38 [l0, l1, l2, l3, l4] [.int s0, .int s1, .ref s2] h = (sx_wr h s2 s1 s0).bind fun h => sx_Ev S 55 39 [l0, l1, l2, l3, l4] [] h) ∧
  (∀ (l1 l2 l3 l4 : Option Value) (x : Nat) (h : sx_H), sx_Ev S 55 39 [some (.ref x), l1, l2, l3, l4] [] h = sx_Ev S 55 40 [some (.ref x), l1, l2, l3, l4] [.ref x] h) ∧
  (∀ (l0 l1 l2 l3 l4 : Option Value) (s0 : Nat) (h : sx_H), sx_Ev S 55 40 [l0, l1, l2, l3, l4] [.ref s0] h = (sx_fld h s0 2 3).bind fun v => sx_Ev S 55 43 [l0, l1, l2, l3, l4] [v] h) ∧
  (∀ (l1 l2 l3 l4 : Option Value) (s0 : Nat) (x : Nat) (h : sx_H), sx_Ev S 55 43 [some (.ref x), l1, l2, l3, l4] [.ref s0] h = sx_Ev S 55 44 [some (.ref x), l1, l2, l3, l4] [.ref x, .ref s0] h) ∧
  (∀ (l0 l1 l2 l3 l4 : Option Value) (s0 : Nat) (s1 : Nat) (h : sx_H), sx_Ev S 55 44 [l0, l1, l2, l3, l4] [.ref s0, .ref s1] h = (sx_fld h s0 2 5).bind fun v => sx_Ev S 55 47 [l0, l1, l2, l3, l4] [v, .ref s1] h) ∧
  (∀ (l0 l1 l2 l3 : Option Value) (s0 : Int32) (s1 : Nat) (x : Int32) (h : sx_H), sx_Ev S 55 47 [l0, l1, l2, l3, some (.int x)] [.int s0, .ref s1] h = sx_Ev S 55 49 [l0, l1, l2, l3, some (.int x)] [.int x, .int s0, .ref s1] h) ∧
  (∀ (l0 l1 l2 l3 l4 : Option Value) (s0 : Int32) (s1 : Int32) (s2 : Nat) (h : sx_H), sx_Ev S 55 49 [l0, l1, l2, l3, l4] [.int s0, .int s1, .ref s2] h = (sx_wr h s2 s1 s0).bind fun h => sx_Ev S 55 50 [l0, l1, l2, l3, l4] [] h) ∧
  (∀ (l1 l2 l3 l4 : Option Value) (x : Nat) (h : sx_H), sx_Ev S 55 50 [some (.ref x), l1, l2, l3, l4] [] h = sx_Ev S 55 51 [some (.ref x), l1, l2, l3, l4] [.ref x] h) ∧
  (∀ (l0 l1 l2 l3 l4 : Option Value) (s0 : Nat) (h : sx_H), sx_Ev S 55 51 [l0, l1, l2, l3, l4] [.ref s0] h = sx_Ev S 55 52 [l0, l1, l2, l3, l4] [.ref s0, .ref s0] h) ∧
  (∀ (l0 l1 l2 l3 l4 : Option Value) (s0 : Nat) (s1 : Nat) (h : sx_H), sx_Ev S 55 52 [l0, l1, l2, l3, l4] [.ref s0, .ref s1] h = (sx_fld h s0 2 5).bind fun v => sx_Ev S 55 55 [l0, l1, l2, l3, l4] [v, .ref s1] h) ∧
  (∀ (l0 l1 l2 l3 l4 : Option Value) (s0 : Int32) (s1 : Nat) (h : sx_H), sx_Ev S 55 55 [l0, l1, l2, l3, l4] [.int s0, .ref s1] h = sx_Ev S 55 56 [l0, l1, l2, l3, l4] [.int (sz (1)), .int s0, .ref s1] h) ∧
  (∀ (l0 l1 l2 l3 l4 : Option Value) (s0 : Int32) (s1 : Int32) (s2 : Nat) (h : sx_H), sx_Ev S 55 56 [l0, l1, l2, l3, l4] [.int s0, .int s1, .ref s2] h = sx_Ev S 55 57 [l0, l1, l2, l3, l4] [.int (s1 + s0), .ref s2] h) ∧
  (∀ (l0 l1 l2 l3 l4 : Option Value) (s0 : Int32) (s1 : Nat) (h : sx_H), sx_Ev S 55 57 [l0, l1, l2, l3, l4] [.int s0, .ref s1] h = (sx_fst h s1 2 5 (.int s0)).bind fun h => sx_Ev S 55 60 [l0, l1, l2, l3, l4] [] h) ∧
  (∀ (l1 l2 l3 l4 : Option Value) (x : Nat) (h : sx_H), sx_Ev S 55 60 [some (.ref x), l1, l2, l3, l4] [] h = sx_Ev S 55 61 [some (.ref x), l1, l2, l3, l4] [.ref x] h) ∧
  (∀ (l0 l1 l2 l3 l4 : Option Value) (s0 : Nat) (h : sx_H), sx_Ev S 55 61 [l0, l1, l2, l3, l4] [.ref s0] h = (sx_fld h s0 2 5).bind fun v => sx_Ev S 55 64 [l0, l1, l2, l3, l4] [v] h) ∧
  (∀ (l0 l1 l2 l3 l4 : Option Value) (s0 : Int32) (h : sx_H), sx_Ev S 55 64 [l0, l1, l2, l3, l4] [.int s0] h = sx_Ev S 55 65 [l0, l1, l2, l3, l4] [.int (sz (1)), .int s0] h) ∧
  (∀ (l0 l1 l2 l3 l4 : Option Value) (s0 : Int32) (s1 : Int32) (h : sx_H), sx_Ev S 55 65 [l0, l1, l2, l3, l4] [.int s0, .int s1] h = sx_Ev S 55 66 [l0, l1, l2, l3, l4] [.int (s1 - s0)] h) ∧
  (∀ (l0 l1 l2 l3 l4 : Option Value) (s0 : Int32) (h : sx_H), sx_Ev S 55 66 [l0, l1, l2, l3, l4] [.int s0] h = some (.inl (some (.int s0)), h)) := ⟨fun _ _ _ _ _ _ => sx_e_nx rfl rfl,
  fun _ _ _ _ _ _ _ hv => sx_e_virt rfl rfl ⟨Nat.le_of_ble_eq_true rfl, Nat.le_of_ble_eq_true rfl, rfl⟩ rfl rfl rfl hv,
  fun _ _ _ _ => rfl,
  fun _ _ _ _ => rfl,
  fun _ _ _ _ _ _ _ => sx_e_eq rfl (by decide) rfl,
  fun _ _ _ _ _ _ => sx_e_nx rfl rfl,
  fun _ _ _ _ _ _ _ => sx_e_ret rfl rfl rfl,
  fun _ _ _ _ _ _ => sx_e_nx rfl rfl,
  fun _ _ _ _ _ _ _ => sx_e_getf rfl rfl (by decide) rfl,
  fun _ _ _ _ _ _ _ => sx_e_nx rfl rfl,
  fun _ _ _ _ _ _ _ _ => sx_e_getf rfl rfl (by decide) rfl,
  fun _ _ _ _ _ _ _ _ => sx_e_nx rfl rfl,
  fun _ _ _ _ _ _ _ _ _ => sx_e_iast rfl rfl,
  fun _ _ _ _ _ _ => sx_e_nx rfl rfl,
  fun _ _ _ _ _ _ _ => sx_e_getf rfl rfl (by decide) rfl,
  fun _ _ _ _ _ _ _ => sx_e_nx rfl rfl,
  fun _ _ _ _ _ _ _ _ => sx_e_getf rfl rfl (by decide) rfl,
  fun _ _ _ _ _ _ _ _ => sx_e_nx rfl rfl,
  fun _ _ _ _ _ _ _ _ _ => sx_e_iast rfl rfl,
  fun _ _ _ _ _ _ => sx_e_nx rfl rfl,
  fun _ _ _ _ _ _ _ => sx_e_getf rfl rfl (by decide) rfl,
  fun _ _ _ _ _ _ _ => sx_e_nx rfl rfl,
  fun _ _ _ _ _ _ _ _ => sx_e_getf rfl rfl (by decide) rfl,
  fun _ _ _ _ _ _ _ _ => sx_e_nx rfl rfl,
  fun _ _ _ _ _ _ _ _ _ => sx_e_iast rfl rfl,
  fun _ _ _ _ _ _ => sx_e_nx rfl rfl,
  fun _ _ _ _ _ _ _ => sx_e_getf rfl rfl (by decide) rfl,
  fun _ _ _ _ _ _ _ => sx_e_nx rfl rfl,
  fun _ _ _ _ _ _ _ _ => sx_e_getf rfl rfl (by decide) rfl,
  fun _ _ _ _ _ _ _ _ => sx_e_nx rfl rfl,
  fun _ _ _ _ _ _ _ _ _ => sx_e_iast rfl rfl,
  fun _ _ _ _ _ _ => sx_e_nx rfl rfl,
  fun _ _ _ _ _ _ _ => sx_e_nx rfl rfl,
  fun _ _ _ _ _ _ _ _ => sx_e_getf rfl rfl (by decide) rfl,
  fun _ _ _ _ _ _ _ _ => sx_e_nx rfl rfl,
  fun _ _ _ _ _ _ _ _ _ => sx_e_nx rfl rfl,
  fun _ _ _ _ _ _ _ _ => sx_e_putf rfl rfl (by decide +kernel) ⟨rfl, rfl⟩ rfl,
  fun _ _ _ _ _ _ => sx_e_nx rfl rfl,
  fun _ _ _ _ _ _ _ => sx_e_getf rfl rfl (by decide) rfl,
  fun _ _ _ _ _ _ _ => sx_e_nx rfl rfl,
  fun _ _ _ _ _ _ _ _ => sx_e_nx rfl rfl,
  fun _ _ _ _ _ _ _ => sx_e_ret rfl rfl rfl⟩
/-- 56: X3_stockOf (I)I -/
theorem c56_q (S : List Int32) : ∀ (a0 : Nat) (a1 : Int32) (h : sx_H), sx_Cl S 56 [.ref a0, .int a1] h = sx_Ev S 56 0 [some (.ref a0), some (.int a1)] [] h := fun _ _ _ => rfl
theorem q56 (S : List Int32) : (∀ (l1 : Option Value) (x : Nat) (h : sx_H), sx_Ev S 56 0 [some (.ref x), l1] [] h = sx_Ev S 56 1 [some (.ref x), l1] [.ref x] h) ∧
  (∀ (l0 : Option Value) (s0 : Nat) (x : Int32) (h : sx_H), sx_Ev S 56 1 [l0, some (.int x)] [.ref s0] h = sx_Ev S 56 2 [l0, some (.int x)] [.int x, .ref s0] h) ∧
  (∀ (l0 l1 : Option Value) (s0 : Int32) (s1 : Nat) (h : sx_H), sx_klass h s1 = some 2 → sx_Ev S 56 2 [l0, l1] [.int s0, .ref s1] h = sx_back S 56 2 [l0, l1] [] (sx_Cl S 28 [.ref s1, .int s0] h)) ∧
  (∀ (ls : sx_L) (st : List Value) (v : Value) (h : sx_H), sx_back S 56 2 ls st (some (.inl (some v), h)) = sx_Ev S 56 5 ls (v :: st) h) ∧
  (∀ (ls : sx_L) (st : List Value) (e : Nat) (h : sx_H), sx_back S 56 2 ls st (some (.inr e, h)) = some (.inr e, h)) ∧
  (∀ (l0 l1 : Option Value) (s0 : Int32) (h : sx_H), sx_Ev S 56 5 [l0, l1] [.int s0] h = if s0 = 0 then sx_Ev S 56 17 [l0, l1] [] h else sx_Ev S 56 8 [l0, l1] [] h) ∧
  (∀ (l1 : Option Value) (x : Nat) (h : sx_H), sx_Ev S 56 8 [some (.ref x), l1] [] h = sx_Ev S 56 9 [some (.ref x), l1] [.ref x] h) ∧
  (∀ (l0 l1 : Option Value) (s0 : Nat) (h : sx_H), sx_Ev S 56 9 [l0, l1] [.ref s0] h = (sx_fld h s0 2 4).bind fun v => sx_Ev S 56 12 [l0, l1] [v] h) ∧
  (∀ (l0 : Option Value) (s0 : Nat) (x : Int32) (h : sx_H), sx_Ev S 56 12 [l0, some (.int x)] [.ref s0] h = sx_Ev S 56 13 [l0, some (.int x)] [.int x, .ref s0] h) ∧
  (∀ (l0 l1 : Option Value) (s0 : Int32) (s1 : Nat) (h : sx_H), sx_Ev S 56 13 [l0, l1] [.int s0, .ref s1] h = (sx_rd S h s1 s0).bind fun v => sx_Ev S 56 14 [l0, l1] [.int v] h) ∧
  (∀ (l0 l1 : Option Value) (s0 : Int32) (h : sx_H), sx_Ev S 56 14 [l0, l1] [.int s0] h = sx_Ev S 56 18 [l0, l1] [.int s0] h) ∧
  (∀ (l0 l1 : Option Value) (h : sx_H), sx_Ev S 56 17 [l0, l1] [] h = sx_Ev S 56 18 [l0, l1] [.int (sz (0))] h) ∧
  (∀ (l0 l1 : Option Value) (s0 : Int32) (h : sx_H), sx_Ev S 56 18 [l0, l1] [.int s0] h = some (.inl (some (.int s0)), h)) := ⟨fun _ _ _ => sx_e_nx rfl rfl,
  fun _ _ _ _ => sx_e_nx rfl rfl,
  fun _ _ _ _ _ hv => sx_e_virt rfl rfl ⟨Nat.le_of_ble_eq_true rfl, Nat.le_of_ble_eq_true rfl, rfl⟩ rfl rfl rfl hv,
  fun _ _ _ _ => rfl,
  fun _ _ _ _ => rfl,
  fun _ _ _ _ => sx_e_eq rfl (by decide) rfl,
  fun _ _ _ => sx_e_nx rfl rfl,
  fun _ _ _ _ => sx_e_getf rfl rfl (by decide) rfl,
  fun _ _ _ _ => sx_e_nx rfl rfl,
  fun _ _ _ _ _ => sx_e_iald rfl rfl,
  fun _ _ _ _ => sx_e_goto rfl (by decide),
  fun _ _ _ => sx_e_nx rfl rfl,
  fun _ _ _ _ => sx_e_ret rfl rfl rfl⟩
/-- 57: X3_wholeStock ()I -/
theorem c57_q (S : List Int32) : ∀ (a0 : Nat) (h : sx_H), sx_Cl S 57 [.ref a0] h = sx_Ev S 57 0 [some (.ref a0), none, none] [] h := fun _ _ => rfl
theorem h57_4 (S : List Int32) : (∀ (l0 l1 : Option Value) (x : Int32) (h : sx_H), sx_Ev S 57 4 [l0, l1, some (.int x)] [] h = sx_Ev S 57 5 [l0, l1, some (.int x)] [.int x] h) := fun _ _ _ _ => sx_e_nx rfl rfl
theorem q57 (S : List Int32) : (∀ (l0 l1 l2 : Option Value) (h : sx_H), sx_Ev S 57 0 [l0, l1, l2] [] h = sx_Ev S 57 1 [l0, l1, l2] [.int (sz (0))] h) ∧
  (∀ (l0 l1 l2 : Option Value) (s0 : Int32) (h : sx_H), sx_Ev S 57 1 [l0, l1, l2] [.int s0] h = sx_Ev S 57 2 [l0, some (.int s0), l2] [] h) ∧
  (∀ (l0 l1 l2 : Option Value) (h : sx_H), sx_Ev S 57 2 [l0, l1, l2] [] h = sx_Ev S 57 3 [l0, l1, l2] [.int (sz (0))] h) ∧
  (∀ (l0 l1 l2 : Option Value) (s0 : Int32) (h : sx_H), sx_Ev S 57 3 [l0, l1, l2] [.int s0] h = sx_Ev S 57 4 [l0, l1, some (.int s0)] [] h) ∧
  (∀ (l1 l2 : Option Value) (s0 : Int32) (x : Nat) (h : sx_H), sx_Ev S 57 5 [some (.ref x), l1, l2] [.int s0] h = sx_Ev S 57 6 [some (.ref x), l1, l2] [.ref x, .int s0] h) ∧
  (∀ (l0 l1 l2 : Option Value) (s0 : Nat) (s1 : Int32) (h : sx_H), sx_Ev S 57 6 [l0, l1, l2] [.ref s0, .int s1] h = (sx_fld h s0 2 5).bind fun v => sx_Ev S 57 9 [l0, l1, l2] [v, .int s1] h) ∧
  (∀ (l0 l1 l2 : Option Value) (s0 : Int32) (s1 : Int32) (h : sx_H), sx_Ev S 57 9 [l0, l1, l2] [.int s0, .int s1] h = if s1 < s0 then sx_Ev S 57 12 [l0, l1, l2] [] h else sx_Ev S 57 26 [l0, l1, l2] [] h) ∧
  (∀ (l0 l2 : Option Value) (x : Int32) (h : sx_H), sx_Ev S 57 12 [l0, some (.int x), l2] [] h = sx_Ev S 57 13 [l0, some (.int x), l2] [.int x] h) ∧
  (∀ (l1 l2 : Option Value) (s0 : Int32) (x : Nat) (h : sx_H), sx_Ev S 57 13 [some (.ref x), l1, l2] [.int s0] h = sx_Ev S 57 14 [some (.ref x), l1, l2] [.ref x, .int s0] h) ∧
  (∀ (l0 l1 : Option Value) (s0 : Nat) (s1 : Int32) (x : Int32) (h : sx_H), sx_Ev S 57 14 [l0, l1, some (.int x)] [.ref s0, .int s1] h = sx_Ev S 57 15 [l0, l1, some (.int x)] [.int x, .ref s0, .int s1] h) ∧
  (∀ (l0 l1 l2 : Option Value) (s0 : Int32) (s1 : Nat) (s2 : Int32) (h : sx_H), sx_klass h s1 = some 2 → sx_Ev S 57 15 [l0, l1, l2] [.int s0, .ref s1, .int s2] h = sx_back S 57 15 [l0, l1, l2] [.int s2] (sx_Cl S 56 [.ref s1, .int s0] h)) ∧
  (∀ (ls : sx_L) (st : List Value) (v : Value) (h : sx_H), sx_back S 57 15 ls st (some (.inl (some v), h)) = sx_Ev S 57 18 ls (v :: st) h) ∧
  (∀ (ls : sx_L) (st : List Value) (e : Nat) (h : sx_H), sx_back S 57 15 ls st (some (.inr e, h)) = some (.inr e, h)) ∧
  (∀ (l0 l1 l2 : Option Value) (s0 : Int32) (s1 : Int32) (h : sx_H), sx_Ev S 57 18 [l0, l1, l2] [.int s0, .int s1] h = sx_Ev S 57 19 [l0, l1, l2] [.int (s1 + s0)] h) ∧
  (∀ (l0 l1 l2 : Option Value) (s0 : Int32) (h : sx_H), sx_Ev S 57 19 [l0, l1, l2] [.int s0] h = sx_Ev S 57 20 [l0, some (.int s0), l2] [] h) ∧
  (∀ (l0 l1 : Option Value) (x : Int32) (h : sx_H), sx_Ev S 57 20 [l0, l1, some (.int x)] [] h = sx_Ev S 57 23 [l0, l1, some (.int (x + sz (1)))] [] h) ∧
  (∀ (l0 l1 l2 : Option Value) (h : sx_H), sx_Ev S 57 23 [l0, l1, l2] [] h = sx_Ev S 57 4 [l0, l1, l2] [] h) ∧
  (∀ (l0 l2 : Option Value) (x : Int32) (h : sx_H), sx_Ev S 57 26 [l0, some (.int x), l2] [] h = sx_Ev S 57 27 [l0, some (.int x), l2] [.int x] h) ∧
  (∀ (l0 l1 l2 : Option Value) (s0 : Int32) (h : sx_H), sx_Ev S 57 27 [l0, l1, l2] [.int s0] h = some (.inl (some (.int s0)), h)) := ⟨fun _ _ _ _ => sx_e_nx rfl rfl,
  fun _ _ _ _ _ => sx_e_nx rfl rfl,
  fun _ _ _ _ => sx_e_nx rfl rfl,
  fun _ _ _ _ _ => sx_e_nx rfl rfl,
  fun _ _ _ _ _ => sx_e_nx rfl rfl,
  fun _ _ _ _ _ _ => sx_e_getf rfl rfl (by decide) rfl,
  fun _ _ _ _ _ _ => sx_e_ige rfl (by decide) rfl,
  fun _ _ _ _ => sx_e_nx rfl rfl,
  fun _ _ _ _ _ => sx_e_nx rfl rfl,
  fun _ _ _ _ _ _ => sx_e_nx rfl rfl,
  fun _ _ _ _ _ _ _ hv => sx_e_virt rfl rfl ⟨Nat.le_of_ble_eq_true rfl, Nat.le_of_ble_eq_true rfl, rfl⟩ rfl rfl rfl hv,
  fun _ _ _ _ => rfl,
  fun _ _ _ _ => rfl,
  fun _ _ _ _ _ _ => sx_e_nx rfl rfl,
  fun _ _ _ _ _ => sx_e_nx rfl rfl,
  fun _ _ _ _ => sx_e_nx rfl rfl,
  fun _ _ _ _ => sx_e_goto rfl (by decide),
  fun _ _ _ _ => sx_e_nx rfl rfl,
  fun _ _ _ _ _ => sx_e_ret rfl rfl rfl⟩
/-- 58: X5_isOne (I)Z -/
theorem c58_q (S : List Int32) : ∀ (a0 : Int32) (h : sx_H), sx_Cl S 58 [.int a0] h = sx_Ev S 58 0 [some (.int a0)] [] h := fun _ _ => rfl
theorem q58 (S : List Int32) : (∀ (x : Int32) (h : sx_H), sx_Ev S 58 0 [some (.int x)] [] h = sx_Ev S 58 1 [some (.int x)] [.int x] h) ∧
  (∀ (l0 : Option Value) (s0 : Int32) (h : sx_H), sx_Ev S 58 1 [l0] [.int s0] h = sx_Ev S 58 2 [l0] [.int (sz (1)), .int s0] h) ∧
  (∀ (l0 : Option Value) (s0 : Int32) (s1 : Int32) (h : sx_H), sx_Ev S 58 2 [l0] [.int s0, .int s1] h = if s1 = s0 then sx_Ev S 58 21 [l0] [] h else sx_Ev S 58 5 [l0] [] h) ∧
  (∀ (x : Int32) (h : sx_H), sx_Ev S 58 5 [some (.int x)] [] h = sx_Ev S 58 6 [some (.int x)] [.int x] h) ∧
  (∀ (l0 : Option Value) (s0 : Int32) (h : sx_H), sx_Ev S 58 6 [l0] [.int s0] h = sx_Ev S 58 7 [l0] [.int (sz (2)), .int s0] h) ∧
  (∀ (l0 : Option Value) (s0 : Int32) (s1 : Int32) (h : sx_H), sx_Ev S 58 7 [l0] [.int s0, .int s1] h = if s1 = s0 then sx_Ev S 58 21 [l0] [] h else sx_Ev S 58 10 [l0] [] h) ∧
  (∀ (x : Int32) (h : sx_H), sx_Ev S 58 10 [some (.int x)] [] h = sx_Ev S 58 11 [some (.int x)] [.int x] h) ∧
  (∀ (l0 : Option Value) (s0 : Int32) (h : sx_H), sx_Ev S 58 11 [l0] [.int s0] h = sx_Ev S 58 12 [l0] [.int (sz (4)), .int s0] h) ∧
  (∀ (l0 : Option Value) (s0 : Int32) (s1 : Int32) (h : sx_H), sx_Ev S 58 12 [l0] [.int s0, .int s1] h = if s1 = s0 then sx_Ev S 58 21 [l0] [] h else sx_Ev S 58 15 [l0] [] h) ∧
  (∀ (x : Int32) (h : sx_H), sx_Ev S 58 15 [some (.int x)] [] h = sx_Ev S 58 16 [some (.int x)] [.int x] h) ∧
  (∀ (l0 : Option Value) (s0 : Int32) (h : sx_H), sx_Ev S 58 16 [l0] [.int s0] h = sx_Ev S 58 18 [l0] [.int (sz (8)), .int s0] h) ∧
  (∀ (l0 : Option Value) (s0 : Int32) (s1 : Int32) (h : sx_H), sx_Ev S 58 18 [l0] [.int s0, .int s1] h = if s1 = s0 then sx_Ev S 58 21 [l0] [] h else sx_Ev S 58 25 [l0] [] h) ∧
  (∀ (l0 : Option Value) (h : sx_H), sx_Ev S 58 21 [l0] [] h = sx_Ev S 58 22 [l0] [.int (sz (1))] h) ∧
  (∀ (l0 : Option Value) (s0 : Int32) (h : sx_H), sx_Ev S 58 22 [l0] [.int s0] h = sx_Ev S 58 26 [l0] [.int s0] h) ∧
  (∀ (l0 : Option Value) (h : sx_H), sx_Ev S 58 25 [l0] [] h = sx_Ev S 58 26 [l0] [.int (sz (0))] h) ∧
  (∀ (l0 : Option Value) (s0 : Int32) (h : sx_H), narrow .boolean (.int s0) = .int s0 → sx_Ev S 58 26 [l0] [.int s0] h = some (.inl (some (.int s0)), h)) := ⟨fun _ _ => sx_e_nx rfl rfl,
  fun _ _ _ => sx_e_nx rfl rfl,
  fun _ _ _ _ => sx_e_ieq rfl (by decide) rfl,
  fun _ _ => sx_e_nx rfl rfl,
  fun _ _ _ => sx_e_nx rfl rfl,
  fun _ _ _ _ => sx_e_ieq rfl (by decide) rfl,
  fun _ _ => sx_e_nx rfl rfl,
  fun _ _ _ => sx_e_nx rfl rfl,
  fun _ _ _ _ => sx_e_ieq rfl (by decide) rfl,
  fun _ _ => sx_e_nx rfl rfl,
  fun _ _ _ => sx_e_bi rfl (by decide +kernel) rfl,
  fun _ _ _ _ => sx_e_ine rfl (by decide) rfl,
  fun _ _ => sx_e_nx rfl rfl,
  fun _ _ _ => sx_e_goto rfl (by decide),
  fun _ _ => sx_e_nx rfl rfl,
  fun _ _ _ hv => sx_e_ret rfl rfl hv⟩
/-- 59: X7_init ()V -/
theorem c59_q (S : List Int32) : ∀ (a0 : Nat) (h : sx_H), sx_Cl S 59 [.ref a0] h = sx_Ev S 59 0 [some (.ref a0)] [] h := fun _ _ => rfl
theorem q59 (S : List Int32) : (∀ (x : Nat) (h : sx_H), sx_Ev S 59 0 [some (.ref x)] [] h = sx_Ev S 59 1 [some (.ref x)] [.ref x] h) ∧
  (∀ (l0 : Option Value) (s0 : Nat) (h : sx_H), sx_Ev S 59 1 [l0] [.ref s0] h = sx_Ev S 59 4 [l0] [] h) ∧
  (∀ (x : Nat) (h : sx_H), sx_Ev S 59 4 [some (.ref x)] [] h = sx_Ev S 59 5 [some (.ref x)] [.ref x] h) ∧
  (∀ (l0 : Option Value) (s0 : Nat) (h : sx_H), sx_Ev S 59 5 [l0] [.ref s0] h = sx_Ev S 59 8 [l0] [.int (sz (144)), .ref s0] h) ∧
  (∀ (l0 : Option Value) (s0 : Int32) (s1 : Nat) (h : sx_H), sx_Ev S 59 8 [l0] [.int s0, .ref s1] h = if s0 < 0 ∨ 65536 < s0.toNatClampNeg then none else sx_Ev S 59 10 [l0] [.ref (sx_new h), .ref s1] (sx_push h (some (.inl (List.replicate s0.toNatClampNeg 0))) s0.toNatClampNeg)) ∧
  (∀ (l0 : Option Value) (s0 : Nat) (s1 : Nat) (h : sx_H), sx_Ev S 59 10 [l0] [.ref s0, .ref s1] h = (sx_fst h s1 4 0 (.ref s0)).bind fun h => sx_Ev S 59 13 [l0] [] h) ∧
  (∀ (l0 : Option Value) (h : sx_H), sx_Ev S 59 13 [l0] [] h = some (.inl none, h)) := ⟨fun _ _ => sx_e_nx rfl rfl,
  fun _ _ _ => sx_e_nx rfl rfl,
  fun _ _ => sx_e_nx rfl rfl,
  fun _ _ _ => sx_e_si rfl (by decide +kernel) rfl,
  fun _ _ _ _ => sx_e_newa rfl rfl,
  fun _ _ _ _ => sx_e_putf rfl rfl (by decide +kernel) ⟨rfl, rfl⟩ rfl,
  fun _ _ => sx_e_dn rfl rfl⟩
/-- 60: X7_size ()I -/
theorem c60_q (S : List Int32) : ∀ (a0 : Nat) (h : sx_H), sx_Cl S 60 [.ref a0] h = sx_Ev S 60 0 [some (.ref a0)] [] h := fun _ _ => rfl
theorem q60 (S : List Int32) : (∀ (x : Nat) (h : sx_H), sx_Ev S 60 0 [some (.ref x)] [] h = sx_Ev S 60 1 [some (.ref x)] [.ref x] h) ∧
  (∀ (l0 : Option Value) (s0 : Nat) (h : sx_H), sx_Ev S 60 1 [l0] [.ref s0] h = (sx_fld h s0 4 1).bind fun v => sx_Ev S 60 4 [l0] [v] h) ∧
  (∀ (l0 : Option Value) (s0 : Int32) (h : sx_H), sx_Ev S 60 4 [l0] [.int s0] h = some (.inl (some (.int s0)), h)) := ⟨fun _ _ => sx_e_nx rfl rfl,
  fun _ _ _ => sx_e_getf rfl rfl (by decide) rfl,
  fun _ _ _ => sx_e_ret rfl rfl rfl⟩
/-- 61: X8_isStitch (C)Z -/
theorem c61_q (S : List Int32) : ∀ (a0 : Int32) (h : sx_H), sx_Cl S 61 [.int a0] h = sx_Ev S 61 0 [some (.int a0)] [] h := fun _ _ => rfl
theorem q61 (S : List Int32) : (∀ (x : Int32) (h : sx_H), sx_Ev S 61 0 [some (.int x)] [] h = sx_Ev S 61 1 [some (.int x)] [.int x] h) ∧
  (∀ (l0 : Option Value) (s0 : Int32) (h : sx_H), sx_Ev S 61 1 [l0] [.int s0] h = sx_Ev S 61 3 [l0] [.int (sz (108)), .int s0] h) ∧
  (∀ (l0 : Option Value) (s0 : Int32) (s1 : Int32) (h : sx_H), sx_Ev S 61 3 [l0] [.int s0, .int s1] h = if s1 = s0 then sx_Ev S 61 18 [l0] [] h else sx_Ev S 61 6 [l0] [] h) ∧
  (∀ (x : Int32) (h : sx_H), sx_Ev S 61 6 [some (.int x)] [] h = sx_Ev S 61 7 [some (.int x)] [.int x] h) ∧
  (∀ (l0 : Option Value) (s0 : Int32) (h : sx_H), sx_Ev S 61 7 [l0] [.int s0] h = sx_Ev S 61 9 [l0] [.int (sz (112)), .int s0] h) ∧
  (∀ (l0 : Option Value) (s0 : Int32) (s1 : Int32) (h : sx_H), sx_Ev S 61 9 [l0] [.int s0, .int s1] h = if s1 = s0 then sx_Ev S 61 18 [l0] [] h else sx_Ev S 61 12 [l0] [] h) ∧
  (∀ (x : Int32) (h : sx_H), sx_Ev S 61 12 [some (.int x)] [] h = sx_Ev S 61 13 [some (.int x)] [.int x] h) ∧
  (∀ (l0 : Option Value) (s0 : Int32) (h : sx_H), sx_Ev S 61 13 [l0] [.int s0] h = sx_Ev S 61 15 [l0] [.int (sz (98)), .int s0] h) ∧
  (∀ (l0 : Option Value) (s0 : Int32) (s1 : Int32) (h : sx_H), sx_Ev S 61 15 [l0] [.int s0, .int s1] h = if s1 = s0 then sx_Ev S 61 18 [l0] [] h else sx_Ev S 61 22 [l0] [] h) ∧
  (∀ (l0 : Option Value) (h : sx_H), sx_Ev S 61 18 [l0] [] h = sx_Ev S 61 19 [l0] [.int (sz (1))] h) ∧
  (∀ (l0 : Option Value) (s0 : Int32) (h : sx_H), sx_Ev S 61 19 [l0] [.int s0] h = sx_Ev S 61 23 [l0] [.int s0] h) ∧
  (∀ (l0 : Option Value) (h : sx_H), sx_Ev S 61 22 [l0] [] h = sx_Ev S 61 23 [l0] [.int (sz (0))] h) ∧
  (∀ (l0 : Option Value) (s0 : Int32) (h : sx_H), narrow .boolean (.int s0) = .int s0 → sx_Ev S 61 23 [l0] [.int s0] h = some (.inl (some (.int s0)), h)) := ⟨fun _ _ => sx_e_nx rfl rfl,
  fun _ _ _ => sx_e_bi rfl (by decide +kernel) rfl,
  fun _ _ _ _ => sx_e_ieq rfl (by decide) rfl,
  fun _ _ => sx_e_nx rfl rfl,
  fun _ _ _ => sx_e_bi rfl (by decide +kernel) rfl,
  fun _ _ _ _ => sx_e_ieq rfl (by decide) rfl,
  fun _ _ => sx_e_nx rfl rfl,
  fun _ _ _ => sx_e_bi rfl (by decide +kernel) rfl,
  fun _ _ _ _ => sx_e_ine rfl (by decide) rfl,
  fun _ _ => sx_e_nx rfl rfl,
  fun _ _ _ => sx_e_goto rfl (by decide),
  fun _ _ => sx_e_nx rfl rfl,
  fun _ _ _ hv => sx_e_ret rfl rfl hv⟩
/-- 62: X9_init ()V -/
theorem c62_q (S : List Int32) : ∀ (a0 : Nat) (h : sx_H), sx_Cl S 62 [.ref a0] h = sx_Ev S 62 0 [some (.ref a0), none] [] h := fun _ _ => rfl
theorem h62_14 (S : List Int32) : (∀ (l0 : Option Value) (x : Int32) (h : sx_H), sx_Ev S 62 14 [l0, some (.int x)] [] h = sx_Ev S 62 15 [l0, some (.int x)] [.int x] h) := fun _ _ _ => sx_e_nx rfl rfl
theorem q62 (S : List Int32) : (∀ (l1 : Option Value) (x : Nat) (h : sx_H), sx_Ev S 62 0 [some (.ref x), l1] [] h = sx_Ev S 62 1 [some (.ref x), l1] [.ref x] h) ∧
  (∀ (l0 l1 : Option Value) (s0 : Nat) (h : sx_H), sx_Ev S 62 1 [l0, l1] [.ref s0] h = sx_Ev S 62 4 [l0, l1] [] h) ∧
  (∀ (l1 : Option Value) (x : Nat) (h : sx_H), sx_Ev S 62 4 [some (.ref x), l1] [] h = sx_Ev S 62 5 [some (.ref x), l1] [.ref x] h) ∧
  (∀ (l0 l1 : Option Value) (s0 : Nat) (h : sx_H), sx_Ev S 62 5 [l0, l1] [.ref s0] h = sx_Ev S 62 7 [l0, l1] [.int (sz (24)), .ref s0] h) ∧
  (∀ (l0 l1 : Option Value) (s0 : Int32) (s1 : Nat) (h : sx_H), sx_Ev S 62 7 [l0, l1] [.int s0, .ref s1] h = if s0 < 0 ∨ 65536 < s0.toNatClampNeg then none else sx_Ev S 62 9 [l0, l1] [.ref (sx_new h), .ref s1] (sx_push h (some (.inl (List.replicate s0.toNatClampNeg 0))) s0.toNatClampNeg)) ∧
  (∀ (l0 l1 : Option Value) (s0 : Nat) (s1 : Nat) (h : sx_H), sx_Ev S 62 9 [l0, l1] [.ref s0, .ref s1] h = (sx_fst h s1 5 0 (.ref s0)).bind fun h => sx_Ev S 62 12 [l0, l1] [] h) ∧
  (∀ (l0 l1 : Option Value) (h : sx_H), sx_Ev S 62 12 [l0, l1] [] h = sx_Ev S 62 13 [l0, l1] [.int (sz (0))] h) ∧
  (∀ (l0 l1 : Option Value) (s0 : Int32) (h : sx_H), sx_Ev S 62 13 [l0, l1] [.int s0] h = sx_Ev S 62 14 [l0, some (.int s0)] [] h) ∧
  (∀ (l1 : Option Value) (s0 : Int32) (x : Nat) (h : sx_H), sx_Ev S 62 15 [some (.ref x), l1] [.int s0] h = sx_Ev S 62 16 [some (.ref x), l1] [.ref x, .int s0] h) ∧
  (∀ (l0 l1 : Option Value) (s0 : Nat) (s1 : Int32) (h : sx_H), sx_Ev S 62 16 [l0, l1] [.ref s0, .int s1] h = (sx_fld h s0 5 0).bind fun v => sx_Ev S 62 19 [l0, l1] [v, .int s1] h) ∧
  (∀ (l0 l1 : Option Value) (s0 : Nat) (s1 : Int32) (h : sx_H), sx_Ev S 62 19 [l0, l1] [.ref s0, .int s1] h = (sx_ints S h s0).bind fun v => sx_Ev S 62 20 [l0, l1] [.int (Int32.ofNat v.length), .int s1] h) ∧
  (∀ (l0 l1 : Option Value) (s0 : Int32) (s1 : Int32) (h : sx_H), sx_Ev S 62 20 [l0, l1] [.int s0, .int s1] h = if s1 < s0 then sx_Ev S 62 23 [l0, l1] [] h else sx_Ev S 62 39 [l0, l1] [] h) ∧
  (∀ (l1 : Option Value) (x : Nat) (h : sx_H), sx_Ev S 62 23 [some (.ref x), l1] [] h = sx_Ev S 62 24 [some (.ref x), l1] [.ref x] h) ∧
  (∀ (l0 l1 : Option Value) (s0 : Nat) (h : sx_H), sx_Ev S 62 24 [l0, l1] [.ref s0] h = (sx_fld h s0 5 0).bind fun v => sx_Ev S 62 27 [l0, l1] [v] h) ∧
  (∀ (l0 : Option Value) (s0 : Nat) (x : Int32) (h : sx_H), sx_Ev S 62 27 [l0, some (.int x)] [.ref s0] h = sx_Ev S 62 28 [l0, some (.int x)] [.int x, .ref s0] h) ∧
  (∀ (l0 : Option Value) (s0 : Int32) (s1 : Nat) (x : Int32) (h : sx_H), sx_Ev S 62 28 [l0, some (.int x)] [.int s0, .ref s1] h = sx_Ev S 62 29 [l0, some (.int x)] [.int x, .int s0, .ref s1] h) ∧
  (∀ (l0 l1 : Option Value) (s0 : Int32) (s1 : Int32) (s2 : Nat) (h : sx_H), sx_Ev S 62 29 [l0, l1] [.int s0, .int s1, .ref s2] h = sx_Ev S 62 31 [l0, l1] [.int (sz (8)), .int s0, .int s1, .ref s2] h) ∧
  (∀ (l0 l1 : Option Value) (s0 : Int32) (s1 : Int32) (s2 : Int32) (s3 : Nat) (h : sx_H), sx_Ev S 62 31 [l0, l1] [.int s0, .int s1, .int s2, .ref s3] h = if s0 = 0 then none else sx_Ev S 62 32 [l0, l1] [.int (s1 - s1 / s0 * s0), .int s2, .ref s3] h) ∧
  (∀ (l0 l1 : Option Value) (s0 : Int32) (s1 : Int32) (s2 : Nat) (h : sx_H), sx_Ev S 62 32 [l0, l1] [.int s0, .int s1, .ref s2] h = (sx_wr h s2 s1 s0).bind fun h => sx_Ev S 62 33 [l0, l1] [] h) ∧
  (∀ (l0 : Option Value) (x : Int32) (h : sx_H), sx_Ev S 62 33 [l0, some (.int x)] [] h = sx_Ev S 62 36 [l0, some (.int (x + sz (1)))] [] h) ∧
  (∀ (l0 l1 : Option Value) (h : sx_H), sx_Ev S 62 36 [l0, l1] [] h = sx_Ev S 62 14 [l0, l1] [] h) ∧
  (∀ (l0 l1 : Option Value) (h : sx_H), sx_Ev S 62 39 [l0, l1] [] h = some (.inl none, h)) := ⟨fun _ _ _ => sx_e_nx rfl rfl,
  fun _ _ _ _ => sx_e_nx rfl rfl,
  fun _ _ _ => sx_e_nx rfl rfl,
  fun _ _ _ _ => sx_e_bi rfl (by decide +kernel) rfl,
  fun _ _ _ _ _ => sx_e_newa rfl rfl,
  fun _ _ _ _ _ => sx_e_putf rfl rfl (by decide +kernel) ⟨rfl, rfl⟩ rfl,
  fun _ _ _ => sx_e_nx rfl rfl,
  fun _ _ _ _ => sx_e_nx rfl rfl,
  fun _ _ _ _ => sx_e_nx rfl rfl,
  fun _ _ _ _ _ => sx_e_getf rfl rfl (by decide) rfl,
  fun _ _ _ _ _ => sx_e_alen rfl rfl,
  fun _ _ _ _ _ => sx_e_ige rfl (by decide) rfl,
  fun _ _ _ => sx_e_nx rfl rfl,
  fun _ _ _ _ => sx_e_getf rfl rfl (by decide) rfl,
  fun _ _ _ _ => sx_e_nx rfl rfl,
  fun _ _ _ _ _ => sx_e_nx rfl rfl,
  fun _ _ _ _ _ _ => sx_e_bi rfl (by decide +kernel) rfl,
  fun _ _ _ _ _ _ _ => sx_e_rem rfl rfl,
  fun _ _ _ _ _ _ => sx_e_iast rfl rfl,
  fun _ _ _ => sx_e_nx rfl rfl,
  fun _ _ _ => sx_e_goto rfl (by decide),
  fun _ _ _ => sx_e_dn rfl rfl⟩
/-- 63: X9_has (II)Z -/
theorem c63_q (S : List Int32) : ∀ (a0 : Int32) (a1 : Int32) (h : sx_H), sx_Cl S 63 [.int a0, .int a1] h = sx_Ev S 63 0 [some (.int a0), some (.int a1)] [] h := fun _ _ _ => rfl
theorem q63 (S : List Int32) : (∀ (l1 : Option Value) (x : Int32) (h : sx_H), sx_Ev S 63 0 [some (.int x), l1] [] h = sx_Ev S 63 1 [some (.int x), l1] [.int x] h) ∧
  (∀ (l0 l1 : Option Value) (s0 : Int32) (h : sx_H), sx_Ev S 63 1 [l0, l1] [.int s0] h = if s0 < 0 then sx_Ev S 63 23 [l0, l1] [] h else sx_Ev S 63 4 [l0, l1] [] h) ∧
  (∀ (l1 : Option Value) (x : Int32) (h : sx_H), sx_Ev S 63 4 [some (.int x), l1] [] h = sx_Ev S 63 5 [some (.int x), l1] [.int x] h) ∧
  (∀ (l0 l1 : Option Value) (s0 : Int32) (h : sx_H), sx_Ev S 63 5 [l0, l1] [.int s0] h = sx_Ev S 63 6 [l0, l1] [.int (sz (3)), .int s0] h) ∧
  (∀ (l0 l1 : Option Value) (s0 : Int32) (s1 : Int32) (h : sx_H), sx_Ev S 63 6 [l0, l1] [.int s0, .int s1] h = if s1 < s0 then sx_Ev S 63 9 [l0, l1] [] h else sx_Ev S 63 23 [l0, l1] [] h) ∧
  (∀ (l0 : Option Value) (x : Int32) (h : sx_H), sx_Ev S 63 9 [l0, some (.int x)] [] h = sx_Ev S 63 10 [l0, some (.int x)] [.int x] h) ∧
  (∀ (l0 l1 : Option Value) (s0 : Int32) (h : sx_H), sx_Ev S 63 10 [l0, l1] [.int s0] h = if s0 < 0 then sx_Ev S 63 23 [l0, l1] [] h else sx_Ev S 63 13 [l0, l1] [] h) ∧
  (∀ (l0 : Option Value) (x : Int32) (h : sx_H), sx_Ev S 63 13 [l0, some (.int x)] [] h = sx_Ev S 63 14 [l0, some (.int x)] [.int x] h) ∧
  (∀ (l0 l1 : Option Value) (s0 : Int32) (h : sx_H), sx_Ev S 63 14 [l0, l1] [.int s0] h = sx_Ev S 63 16 [l0, l1] [.int (sz (8)), .int s0] h) ∧
  (∀ (l0 l1 : Option Value) (s0 : Int32) (s1 : Int32) (h : sx_H), sx_Ev S 63 16 [l0, l1] [.int s0, .int s1] h = if s1 < s0 then sx_Ev S 63 19 [l0, l1] [] h else sx_Ev S 63 23 [l0, l1] [] h) ∧
  (∀ (l0 l1 : Option Value) (h : sx_H), sx_Ev S 63 19 [l0, l1] [] h = sx_Ev S 63 20 [l0, l1] [.int (sz (1))] h) ∧
  (∀ (l0 l1 : Option Value) (s0 : Int32) (h : sx_H), sx_Ev S 63 20 [l0, l1] [.int s0] h = sx_Ev S 63 24 [l0, l1] [.int s0] h) ∧
  (∀ (l0 l1 : Option Value) (h : sx_H), sx_Ev S 63 23 [l0, l1] [] h = sx_Ev S 63 24 [l0, l1] [.int (sz (0))] h) ∧
  (∀ (l0 l1 : Option Value) (s0 : Int32) (h : sx_H), narrow .boolean (.int s0) = .int s0 → sx_Ev S 63 24 [l0, l1] [.int s0] h = some (.inl (some (.int s0)), h)) := ⟨fun _ _ _ => sx_e_nx rfl rfl,
  fun _ _ _ _ => sx_e_lt rfl (by decide) rfl,
  fun _ _ _ => sx_e_nx rfl rfl,
  fun _ _ _ _ => sx_e_nx rfl rfl,
  fun _ _ _ _ _ => sx_e_ige rfl (by decide) rfl,
  fun _ _ _ => sx_e_nx rfl rfl,
  fun _ _ _ _ => sx_e_lt rfl (by decide) rfl,
  fun _ _ _ => sx_e_nx rfl rfl,
  fun _ _ _ _ => sx_e_bi rfl (by decide +kernel) rfl,
  fun _ _ _ _ _ => sx_e_ige rfl (by decide) rfl,
  fun _ _ _ => sx_e_nx rfl rfl,
  fun _ _ _ _ => sx_e_goto rfl (by decide),
  fun _ _ _ => sx_e_nx rfl rfl,
  fun _ _ _ _ hv => sx_e_ret rfl rfl hv⟩
/-- 64: X9_wordFor (II)I -/
theorem c64_q (S : List Int32) : ∀ (a0 : Nat) (a1 : Int32) (a2 : Int32) (h : sx_H), sx_Cl S 64 [.ref a0, .int a1, .int a2] h = sx_Ev S 64 0 [some (.ref a0), some (.int a1), some (.int a2)] [] h := fun _ _ _ _ => rfl
theorem q64 (S : List Int32) : (∀ (l0 l2 : Option Value) (x : Int32) (h : sx_H), sx_Ev S 64 0 [l0, some (.int x), l2] [] h = sx_Ev S 64 1 [l0, some (.int x), l2] [.int x] h) ∧
  (∀ (l0 l1 : Option Value) (s0 : Int32) (x : Int32) (h : sx_H), sx_Ev S 64 1 [l0, l1, some (.int x)] [.int s0] h = sx_Ev S 64 2 [l0, l1, some (.int x)] [.int x, .int s0] h) ∧
  (∀ (l0 l1 l2 : Option Value) (s0 : Int32) (s1 : Int32) (h : sx_H), sx_Ev S 64 2 [l0, l1, l2] [.int s0, .int s1] h = sx_back S 64 2 [l0, l1, l2] [] (sx_Cl S 63 [.int s1, .int s0] h)) ∧
  (∀ (ls : sx_L) (st : List Value) (v : Value) (h : sx_H), sx_back S 64 2 ls st (some (.inl (some v), h)) = sx_Ev S 64 5 ls (v :: st) h) ∧
  (∀ (ls : sx_L) (st : List Value) (e : Nat) (h : sx_H), sx_back S 64 2 ls st (some (.inr e, h)) = some (.inr e, h)) ∧
  (∀ (l0 l1 l2 : Option Value) (s0 : Int32) (h : sx_H), sx_Ev S 64 5 [l0, l1, l2] [.int s0] h = if s0 = 0 then sx_Ev S 64 22 [l0, l1, l2] [] h else sx_Ev S 64 8 [l0, l1, l2] [] h) ∧
  (∀ (l1 l2 : Option Value) (x : Nat) (h : sx_H), sx_Ev S 64 8 [some (.ref x), l1, l2] [] h = sx_Ev S 64 9 [some (.ref x), l1, l2] [.ref x] h) ∧
  (∀ (l0 l1 l2 : Option Value) (s0 : Nat) (h : sx_H), sx_Ev S 64 9 [l0, l1, l2] [.ref s0] h = (sx_fld h s0 5 0).bind fun v => sx_Ev S 64 12 [l0, l1, l2] [v] h) ∧
  (∀ (l0 l2 : Option Value) (s0 : Nat) (x : Int32) (h : sx_H), sx_Ev S 64 12 [l0, some (.int x), l2] [.ref s0] h = sx_Ev S 64 13 [l0, some (.int x), l2] [.int x, .ref s0] h) ∧
  (∀ (l0 l1 l2 : Option Value) (s0 : Int32) (s1 : Nat) (h : sx_H), sx_Ev S 64 13 [l0, l1, l2] [.int s0, .ref s1] h = sx_Ev S 64 15 [l0, l1, l2] [.int (sz (8)), .int s0, .ref s1] h) ∧
  (∀ (l0 l1 l2 : Option Value) (s0 : Int32) (s1 : Int32) (s2 : Nat) (h : sx_H), sx_Ev S 64 15 [l0, l1, l2] [.int s0, .int s1, .ref s2] h = sx_Ev S 64 16 [l0, l1, l2] [.int (s1 * s0), .ref s2] h) ∧
  (∀ (l0 l1 : Option Value) (s0 : Int32) (s1 : Nat) (x : Int32) (h : sx_H), sx_Ev S 64 16 [l0, l1, some (.int x)] [.int s0, .ref s1] h = sx_Ev S 64 17 [l0, l1, some (.int x)] [.int x, .int s0, .ref s1] h) ∧
  (∀ (l0 l1 l2 : Option Value) (s0 : Int32) (s1 : Int32) (s2 : Nat) (h : sx_H), sx_Ev S 64 17 [l0, l1, l2] [.int s0, .int s1, .ref s2] h = sx_Ev S 64 18 [l0, l1, l2] [.int (s1 + s0), .ref s2] h) ∧
  (∀ (l0 l1 l2 : Option Value) (s0 : Int32) (s1 : Nat) (h : sx_H), sx_Ev S 64 18 [l0, l1, l2] [.int s0, .ref s1] h = (sx_rd S h s1 s0).bind fun v => sx_Ev S 64 19 [l0, l1, l2] [.int v] h) ∧
  (∀ (l0 l1 l2 : Option Value) (s0 : Int32) (h : sx_H), sx_Ev S 64 19 [l0, l1, l2] [.int s0] h = sx_Ev S 64 23 [l0, l1, l2] [.int s0] h) ∧
  (∀ (l0 l1 l2 : Option Value) (h : sx_H), sx_Ev S 64 22 [l0, l1, l2] [] h = sx_Ev S 64 23 [l0, l1, l2] [.int (sz (-1))] h) ∧
  (∀ (l0 l1 l2 : Option Value) (s0 : Int32) (h : sx_H), sx_Ev S 64 23 [l0, l1, l2] [.int s0] h = some (.inl (some (.int s0)), h)) := ⟨fun _ _ _ _ => sx_e_nx rfl rfl,
  fun _ _ _ _ _ => sx_e_nx rfl rfl,
  fun _ _ _ _ _ _ => sx_e_ca rfl rfl,
  fun _ _ _ _ => rfl,
  fun _ _ _ _ => rfl,
  fun _ _ _ _ _ => sx_e_eq rfl (by decide) rfl,
  fun _ _ _ _ => sx_e_nx rfl rfl,
  fun _ _ _ _ _ => sx_e_getf rfl rfl (by decide) rfl,
  fun _ _ _ _ _ => sx_e_nx rfl rfl,
  fun _ _ _ _ _ _ => sx_e_bi rfl (by decide +kernel) rfl,
  fun _ _ _ _ _ _ _ => sx_e_nx rfl rfl,
  fun _ _ _ _ _ _ => sx_e_nx rfl rfl,
  fun _ _ _ _ _ _ _ => sx_e_nx rfl rfl,
  fun _ _ _ _ _ _ => sx_e_iald rfl rfl,
  fun _ _ _ _ _ => sx_e_goto rfl (by decide),
  fun _ _ _ _ => sx_e_nx rfl rfl,
  fun _ _ _ _ _ => sx_e_ret rfl rfl rfl⟩
/-- 65: X10_init ()V -/
theorem c65_q (S : List Int32) : ∀ (a0 : Nat) (h : sx_H), sx_Cl S 65 [.ref a0] h = sx_Ev S 65 0 [some (.ref a0)] [] h := fun _ _ => rfl
theorem q65 (S : List Int32) : (∀ (x : Nat) (h : sx_H), sx_Ev S 65 0 [some (.ref x)] [] h = sx_Ev S 65 1 [some (.ref x)] [.ref x] h) ∧
  (∀ (l0 : Option Value) (s0 : Nat) (h : sx_H), sx_Ev S 65 1 [l0] [.ref s0] h = sx_Ev S 65 4 [l0] [] h) ∧
  (∀ (x : Nat) (h : sx_H), sx_Ev S 65 4 [some (.ref x)] [] h = sx_Ev S 65 5 [some (.ref x)] [.ref x] h) ∧
  (∀ (l0 : Option Value) (s0 : Nat) (h : sx_H), sx_Ev S 65 5 [l0] [.ref s0] h = sx_Ev S 65 8 [l0] [.ref (sx_new h), .ref s0] (sx_push h (some (.inr (.inr (2, sx_df 2)))) (sx_N 2))) ∧
  (∀ (l0 : Option Value) (s0 : Nat) (s1 : Nat) (h : sx_H), sx_Ev S 65 8 [l0] [.ref s0, .ref s1] h = sx_Ev S 65 9 [l0] [.ref s0, .ref s0, .ref s1] h) ∧
  (∀ (l0 : Option Value) (s0 : Nat) (s1 : Nat) (s2 : Nat) (h : sx_H), sx_Ev S 65 9 [l0] [.ref s0, .ref s1, .ref s2] h = sx_back S 65 9 [l0] [.ref s1, .ref s2] (sx_Cl S 52 [.ref s0] h)) ∧
  (∀ (ls : sx_L) (st : List Value) (h : sx_H), sx_back S 65 9 ls st (some (.inl none, h)) = sx_Ev S 65 12 ls st h) ∧
  (∀ (ls : sx_L) (st : List Value) (e : Nat) (h : sx_H), sx_back S 65 9 ls st (some (.inr e, h)) = some (.inr e, h)) ∧
  (∀ (l0 : Option Value) (s0 : Nat) (s1 : Nat) (h : sx_H), sx_Ev S 65 12 [l0] [.ref s0, .ref s1] h = (sx_fst h s1 6 0 (.ref s0)).bind fun h => sx_Ev S 65 15 [l0] [] h) ∧
  (∀ (x : Nat) (h : sx_H), sx_Ev S 65 15 [some (.ref x)] [] h = sx_Ev S 65 16 [some (.ref x)] [.ref x] h) ∧
  (∀ (l0 : Option Value) (s0 : Nat) (h : sx_H), sx_Ev S 65 16 [l0] [.ref s0] h = sx_Ev S 65 18 [l0] [.int (sz (6)), .ref s0] h) ∧
  (∀ (l0 : Option Value) (s0 : Int32) (s1 : Nat) (h : sx_H), sx_Ev S 65 18 [l0] [.int s0, .ref s1] h = if s0 < 0 ∨ 65536 < s0.toNatClampNeg then none else sx_Ev S 65 21 [l0] [.ref (sx_new h), .ref s1] (sx_push h (some (.inr (.inl (0, List.replicate s0.toNatClampNeg none)))) s0.toNatClampNeg)) ∧
  (∀ (l0 : Option Value) (s0 : Nat) (s1 : Nat) (h : sx_H), sx_Ev S 65 21 [l0] [.ref s0, .ref s1] h = (sx_fst h s1 6 1 (.ref s0)).bind fun h => sx_Ev S 65 24 [l0] [] h) ∧
  (∀ (x : Nat) (h : sx_H), sx_Ev S 65 24 [some (.ref x)] [] h = sx_Ev S 65 25 [some (.ref x)] [.ref x] h) ∧
  (∀ (l0 : Option Value) (s0 : Nat) (h : sx_H), sx_Ev S 65 25 [l0] [.ref s0] h = sx_Ev S 65 26 [l0] [.int (sz (4)), .ref s0] h) ∧
  (∀ (l0 : Option Value) (s0 : Int32) (s1 : Nat) (h : sx_H), sx_Ev S 65 26 [l0] [.int s0, .ref s1] h = if s0 < 0 ∨ 65536 < s0.toNatClampNeg then none else sx_Ev S 65 29 [l0] [.ref (sx_new h), .ref s1] (sx_push h (some (.inr (.inl (1, List.replicate s0.toNatClampNeg none)))) s0.toNatClampNeg)) ∧
  (∀ (l0 : Option Value) (s0 : Nat) (s1 : Nat) (h : sx_H), sx_Ev S 65 29 [l0] [.ref s0, .ref s1] h = (sx_fst h s1 6 2 (.ref s0)).bind fun h => sx_Ev S 65 32 [l0] [] h) ∧
  (∀ (x : Nat) (h : sx_H), sx_Ev S 65 32 [some (.ref x)] [] h = sx_Ev S 65 33 [some (.ref x)] [.ref x] h) ∧
  (∀ (l0 : Option Value) (s0 : Nat) (h : sx_H), sx_Ev S 65 33 [l0] [.ref s0] h = sx_Ev S 65 36 [l0] [.ref (sx_new h), .ref s0] (sx_push h (some (.inr (.inr (4, sx_df 4)))) (sx_N 4))) ∧
  (∀ (l0 : Option Value) (s0 : Nat) (s1 : Nat) (h : sx_H), sx_Ev S 65 36 [l0] [.ref s0, .ref s1] h = sx_Ev S 65 37 [l0] [.ref s0, .ref s0, .ref s1] h) ∧
  (∀ (l0 : Option Value) (s0 : Nat) (s1 : Nat) (s2 : Nat) (h : sx_H), sx_Ev S 65 37 [l0] [.ref s0, .ref s1, .ref s2] h = sx_back S 65 37 [l0] [.ref s1, .ref s2] (sx_Cl S 59 [.ref s0] h)) ∧
  (∀ (ls : sx_L) (st : List Value) (h : sx_H), sx_back S 65 37 ls st (some (.inl none, h)) = sx_Ev S 65 40 ls st h) ∧
  (∀ (ls : sx_L) (st : List Value) (e : Nat) (h : sx_H), sx_back S 65 37 ls st (some (.inr e, h)) = some (.inr e, h)) ∧
  (∀ (l0 : Option Value) (s0 : Nat) (s1 : Nat) (h : sx_H), sx_Ev S 65 40 [l0] [.ref s0, .ref s1] h = (sx_fst h s1 6 3 (.ref s0)).bind fun h => sx_Ev S 65 43 [l0] [] h) ∧
  (∀ (x : Nat) (h : sx_H), sx_Ev S 65 43 [some (.ref x)] [] h = sx_Ev S 65 44 [some (.ref x)] [.ref x] h) ∧
  (∀ (l0 : Option Value) (s0 : Nat) (h : sx_H), sx_Ev S 65 44 [l0] [.ref s0] h = sx_Ev S 65 47 [l0] [.ref (sx_new h), .ref s0] (sx_push h (some (.inr (.inr (5, sx_df 5)))) (sx_N 5))) ∧
  (∀ (l0 : Option Value) (s0 : Nat) (s1 : Nat) (h : sx_H), sx_Ev S 65 47 [l0] [.ref s0, .ref s1] h = sx_Ev S 65 48 [l0] [.ref s0, .ref s0, .ref s1] h) ∧
  (∀ (l0 : Option Value) (s0 : Nat) (s1 : Nat) (s2 : Nat) (h : sx_H), sx_Ev S 65 48 [l0] [.ref s0, .ref s1, .ref s2] h = sx_back S 65 48 [l0] [.ref s1, .ref s2] (sx_Cl S 62 [.ref s0] h)) ∧
  (∀ (ls : sx_L) (st : List Value) (h : sx_H), sx_back S 65 48 ls st (some (.inl none, h)) = sx_Ev S 65 51 ls st h) ∧
  (∀ (ls : sx_L) (st : List Value) (e : Nat) (h : sx_H), sx_back S 65 48 ls st (some (.inr e, h)) = some (.inr e, h)) ∧
  (∀ (l0 : Option Value) (s0 : Nat) (s1 : Nat) (h : sx_H), sx_Ev S 65 51 [l0] [.ref s0, .ref s1] h = (sx_fst h s1 6 4 (.ref s0)).bind fun h => sx_Ev S 65 54 [l0] [] h) ∧
  (∀ (x : Nat) (h : sx_H), sx_Ev S 65 54 [some (.ref x)] [] h = sx_Ev S 65 55 [some (.ref x)] [.ref x] h) ∧
  (∀ (l0 : Option Value) (s0 : Nat) (h : sx_H), sx_Ev S 65 55 [l0] [.ref s0] h = sx_Ev S 65 58 [l0] [.ref (sx_new h), .ref s0] (sx_push h (some (.inr (.inr (1, sx_df 1)))) (sx_N 1))) ∧
  (∀ (l0 : Option Value) (s0 : Nat) (s1 : Nat) (h : sx_H), sx_Ev S 65 58 [l0] [.ref s0, .ref s1] h = sx_Ev S 65 59 [l0] [.ref s0, .ref s0, .ref s1] h) ∧
  (∀ (l0 : Option Value) (s0 : Nat) (s1 : Nat) (s2 : Nat) (h : sx_H), sx_Ev S 65 59 [l0] [.ref s0, .ref s1, .ref s2] h = sx_back S 65 59 [l0] [.ref s1, .ref s2] (sx_Cl S 40 [.ref s0] h)) ∧
  (∀ (ls : sx_L) (st : List Value) (h : sx_H), sx_back S 65 59 ls st (some (.inl none, h)) = sx_Ev S 65 62 ls st h) ∧
  (∀ (ls : sx_L) (st : List Value) (e : Nat) (h : sx_H), sx_back S 65 59 ls st (some (.inr e, h)) = some (.inr e, h)) ∧
  (∀ (l0 : Option Value) (s0 : Nat) (s1 : Nat) (h : sx_H), sx_Ev S 65 62 [l0] [.ref s0, .ref s1] h = (sx_fst h s1 6 5 (.ref s0)).bind fun h => sx_Ev S 65 65 [l0] [] h) ∧
  (∀ (l0 : Option Value) (h : sx_H), sx_Ev S 65 65 [l0] [] h = some (.inl none, h)) := ⟨fun _ _ => sx_e_nx rfl rfl,
  fun _ _ _ => sx_e_nx rfl rfl,
  fun _ _ => sx_e_nx rfl rfl,
  fun _ _ _ => sx_e_nx rfl rfl,
  fun _ _ _ _ => sx_e_nx rfl rfl,
  fun _ _ _ _ _ => sx_e_ca rfl rfl,
  fun _ _ _ => rfl,
  fun _ _ _ _ => rfl,
  fun _ _ _ _ => sx_e_putf rfl rfl (by decide +kernel) ⟨rfl, rfl⟩ rfl,
  fun _ _ => sx_e_nx rfl rfl,
  fun _ _ _ => sx_e_bi rfl (by decide +kernel) rfl,
  fun _ _ _ _ => sx_e_anew rfl rfl (by decide) rfl,
  fun _ _ _ _ => sx_e_putf rfl rfl (by decide +kernel) ⟨rfl, rfl⟩ rfl,
  fun _ _ => sx_e_nx rfl rfl,
  fun _ _ _ => sx_e_nx rfl rfl,
  fun _ _ _ _ => sx_e_anew rfl rfl (by decide) rfl,
  fun _ _ _ _ => sx_e_putf rfl rfl (by decide +kernel) ⟨rfl, rfl⟩ rfl,
  fun _ _ => sx_e_nx rfl rfl,
  fun _ _ _ => sx_e_nx rfl rfl,
  fun _ _ _ _ => sx_e_nx rfl rfl,
  fun _ _ _ _ _ => sx_e_ca rfl rfl,
  fun _ _ _ => rfl,
  fun _ _ _ _ => rfl,
  fun _ _ _ _ => sx_e_putf rfl rfl (by decide +kernel) ⟨rfl, rfl⟩ rfl,
  fun _ _ => sx_e_nx rfl rfl,
  fun _ _ _ => sx_e_nx rfl rfl,
  fun _ _ _ _ => sx_e_nx rfl rfl,
  fun _ _ _ _ _ => sx_e_ca rfl rfl,
  fun _ _ _ => rfl,
  fun _ _ _ _ => rfl,
  fun _ _ _ _ => sx_e_putf rfl rfl (by decide +kernel) ⟨rfl, rfl⟩ rfl,
  fun _ _ => sx_e_nx rfl rfl,
  fun _ _ _ => sx_e_nx rfl rfl,
  fun _ _ _ _ => sx_e_nx rfl rfl,
  fun _ _ _ _ _ => sx_e_ca rfl rfl,
  fun _ _ _ => rfl,
  fun _ _ _ _ => rfl,
  fun _ _ _ _ => sx_e_putf rfl rfl (by decide +kernel) ⟨rfl, rfl⟩ rfl,
  fun _ _ => sx_e_dn rfl rfl⟩
