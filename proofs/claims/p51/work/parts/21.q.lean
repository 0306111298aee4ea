/-! EQUATIONS of the methods 0 to 34: printed by wip/p51/gen2.py -/
/-- 0: X1_colourAt (II)I -/
theorem c0_q (S : List Int32) : ∀ (a0 : Nat) (a1 : Int32) (a2 : Int32) (h : sx_H), sx_Cl S 0 [.ref a0, .int a1, .int a2] h = sx_Ev S 0 0 [some (.ref a0), some (.int a1), some (.int a2), none, none] [] h := fun _ _ _ _ => rfl
theorem q0 (S : List Int32) : (∀ (l0 l2 l3 l4 : Option Value) (x : Int32) (h : sx_H), sx_Ev S 0 0 [l0, some (.int x), l2, l3, l4] [] h = sx_Ev S 0 1 [l0, some (.int x), l2, l3, l4] [.int x] h) ∧
  (∀ (l1 l2 l3 l4 : Option Value) (s0 : Int32) (x : Nat) (h : sx_H), sx_Ev S 0 1 [some (.ref x), l1, l2, l3, l4] [.int s0] h = sx_Ev S 0 2 [some (.ref x), l1, l2, l3, l4] [.ref x, .int s0] h) ∧
  (∀ (l0 l1 l2 l3 l4 : Option Value) (s0 : Nat) (s1 : Int32) (h : sx_H), sx_Ev S 0 2 [l0, l1, l2, l3, l4] [.ref s0, .int s1] h = (sx_fld h s0 0 2).bind fun v => sx_Ev S 0 5 [l0, l1, l2, l3, l4] [v, .int s1] h) ∧
  (∀ (l0 l1 l2 l3 l4 : Option Value) (s0 : Int32) (s1 : Int32) (h : sx_H), sx_Ev S 0 5 [l0, l1, l2, l3, l4] [.int s0, .int s1] h = sx_Ev S 0 6 [l0, l1, l2, l3, l4] [.int (s1 * s0)] h) ∧
  (∀ (l0 l1 l3 l4 : Option Value) (s0 : Int32) (x : Int32) (h : sx_H), sx_Ev S 0 6 [l0, l1, some (.int x), l3, l4] [.int s0] h = sx_Ev S 0 7 [l0, l1, some (.int x), l3, l4] [.int x, .int s0] h) ∧
  (∀ (l0 l1 l2 l3 l4 : Option Value) (s0 : Int32) (s1 : Int32) (h : sx_H), sx_Ev S 0 7 [l0, l1, l2, l3, l4] [.int s0, .int s1] h = sx_Ev S 0 8 [l0, l1, l2, l3, l4] [.int (s1 + s0)] h) ∧
  (∀ (l0 l1 l2 l3 l4 : Option Value) (s0 : Int32) (h : sx_H), sx_Ev S 0 8 [l0, l1, l2, l3, l4] [.int s0] h = sx_Ev S 0 9 [l0, l1, l2, some (.int s0), l4] [] h) ∧
  (∀ (l0 l2 l3 l4 : Option Value) (x : Int32) (h : sx_H), sx_Ev S 0 9 [l0, some (.int x), l2, l3, l4] [] h = sx_Ev S 0 10 [l0, some (.int x), l2, l3, l4] [.int x] h) ∧
  (∀ (l0 l1 l2 l3 l4 : Option Value) (s0 : Int32) (h : sx_H), sx_Ev S 0 10 [l0, l1, l2, l3, l4] [.int s0] h = if s0 < 0 then sx_Ev S 0 37 [l0, l1, l2, l3, l4] [] h else sx_Ev S 0 13 [l0, l1, l2, l3, l4] [] h) ∧
  (∀ (l0 l2 l3 l4 : Option Value) (x : Int32) (h : sx_H), sx_Ev S 0 13 [l0, some (.int x), l2, l3, l4] [] h = sx_Ev S 0 14 [l0, some (.int x), l2, l3, l4] [.int x] h) ∧
  (∀ (l1 l2 l3 l4 : Option Value) (s0 : Int32) (x : Nat) (h : sx_H), sx_Ev S 0 14 [some (.ref x), l1, l2, l3, l4] [.int s0] h = sx_Ev S 0 15 [some (.ref x), l1, l2, l3, l4] [.ref x, .int s0] h) ∧
  (∀ (l0 l1 l2 l3 l4 : Option Value) (s0 : Nat) (s1 : Int32) (h : sx_H), sx_Ev S 0 15 [l0, l1, l2, l3, l4] [.ref s0, .int s1] h = (sx_fld h s0 0 3).bind fun v => sx_Ev S 0 18 [l0, l1, l2, l3, l4] [v, .int s1] h) ∧
  (∀ (l0 l1 l2 l3 l4 : Option Value) (s0 : Int32) (s1 : Int32) (h : sx_H), sx_Ev S 0 18 [l0, l1, l2, l3, l4] [.int s0, .int s1] h = if s1 < s0 then sx_Ev S 0 21 [l0, l1, l2, l3, l4] [] h else sx_Ev S 0 37 [l0, l1, l2, l3, l4] [] h) ∧
  (∀ (l0 l1 l3 l4 : Option Value) (x : Int32) (h : sx_H), sx_Ev S 0 21 [l0, l1, some (.int x), l3, l4] [] h = sx_Ev S 0 22 [l0, l1, some (.int x), l3, l4] [.int x] h) ∧
  (∀ (l0 l1 l2 l3 l4 : Option Value) (s0 : Int32) (h : sx_H), sx_Ev S 0 22 [l0, l1, l2, l3, l4] [.int s0] h = if s0 < 0 then sx_Ev S 0 37 [l0, l1, l2, l3, l4] [] h else sx_Ev S 0 25 [l0, l1, l2, l3, l4] [] h) ∧
  (∀ (l0 l1 l3 l4 : Option Value) (x : Int32) (h : sx_H), sx_Ev S 0 25 [l0, l1, some (.int x), l3, l4] [] h = sx_Ev S 0 26 [l0, l1, some (.int x), l3, l4] [.int x] h) ∧
  (∀ (l1 l2 l3 l4 : Option Value) (s0 : Int32) (x : Nat) (h : sx_H), sx_Ev S 0 26 [some (.ref x), l1, l2, l3, l4] [.int s0] h = sx_Ev S 0 27 [some (.ref x), l1, l2, l3, l4] [.ref x, .int s0] h) ∧
  (∀ (l0 l1 l2 l3 l4 : Option Value) (s0 : Nat) (s1 : Int32) (h : sx_H), sx_Ev S 0 27 [l0, l1, l2, l3, l4] [.ref s0, .int s1] h = (sx_fld h s0 0 2).bind fun v => sx_Ev S 0 30 [l0, l1, l2, l3, l4] [v, .int s1] h) ∧
  (∀ (l0 l1 l2 l3 l4 : Option Value) (s0 : Int32) (s1 : Int32) (h : sx_H), sx_Ev S 0 30 [l0, l1, l2, l3, l4] [.int s0, .int s1] h = if s1 < s0 then sx_Ev S 0 33 [l0, l1, l2, l3, l4] [] h else sx_Ev S 0 37 [l0, l1, l2, l3, l4] [] h) ∧
  (∀ (l0 l1 l2 l3 l4 : Option Value) (h : sx_H), sx_Ev S 0 33 [l0, l1, l2, l3, l4] [] h = sx_Ev S 0 34 [l0, l1, l2, l3, l4] [.int (sz (1))] h) ∧
  (∀ (l0 l1 l2 l3 l4 : Option Value) (s0 : Int32) (h : sx_H), sx_Ev S 0 34 [l0, l1, l2, l3, l4] [.int s0] h = sx_Ev S 0 38 [l0, l1, l2, l3, l4] [.int s0] h) ∧
  (∀ (l0 l1 l2 l3 l4 : Option Value) (h : sx_H), sx_Ev S 0 37 [l0, l1, l2, l3, l4] [] h = sx_Ev S 0 38 [l0, l1, l2, l3, l4] [.int (sz (0))] h) ∧
  (∀ (l0 l1 l2 l3 l4 : Option Value) (s0 : Int32) (h : sx_H), sx_Ev S 0 38 [l0, l1, l2, l3, l4] [.int s0] h = sx_Ev S 0 40 [l0, l1, l2, l3, some (.int s0)] [] h) ∧
  (∀ (l0 l1 l2 l3 : Option Value) (x : Int32) (h : sx_H), sx_Ev S 0 40 [l0, l1, l2, l3, some (.int x)] [] h = sx_Ev S 0 42 [l0, l1, l2, l3, some (.int x)] [.int x] h) ∧
  (∀ (l0 l1 l2 l3 l4 : Option Value) (s0 : Int32) (h : sx_H), sx_Ev S 0 42 [l0, l1, l2, l3, l4] [.int s0] h = if s0 = 0 then sx_Ev S 0 67 [l0, l1, l2, l3, l4] [] h else sx_Ev S 0 45 [l0, l1, l2, l3, l4] [] h) ∧
  (∀ (l0 l1 l2 l4 : Option Value) (x : Int32) (h : sx_H), sx_Ev S 0 45 [l0, l1, l2, some (.int x), l4] [] h = sx_Ev S 0 46 [l0, l1, l2, some (.int x), l4] [.int x] h) ∧
  (∀ (l0 l1 l2 l3 l4 : Option Value) (s0 : Int32) (h : sx_H), sx_Ev S 0 46 [l0, l1, l2, l3, l4] [.int s0] h = if s0 < 0 then sx_Ev S 0 67 [l0, l1, l2, l3, l4] [] h else sx_Ev S 0 49 [l0, l1, l2, l3, l4] [] h) ∧
  (∀ (l0 l1 l2 l4 : Option Value) (x : Int32) (h : sx_H), sx_Ev S 0 49 [l0, l1, l2, some (.int x), l4] [] h = sx_Ev S 0 50 [l0, l1, l2, some (.int x), l4] [.int x] h) ∧
  (∀ (l1 l2 l3 l4 : Option Value) (s0 : Int32) (x : Nat) (h : sx_H), sx_Ev S 0 50 [some (.ref x), l1, l2, l3, l4] [.int s0] h = sx_Ev S 0 51 [some (.ref x), l1, l2, l3, l4] [.ref x, .int s0] h) ∧
  (∀ (l0 l1 l2 l3 l4 : Option Value) (s0 : Nat) (s1 : Int32) (h : sx_H), sx_Ev S 0 51 [l0, l1, l2, l3, l4] [.ref s0, .int s1] h = (sx_fld h s0 0 6).bind fun v => sx_Ev S 0 54 [l0, l1, l2, l3, l4] [v, .int s1] h) ∧
  (∀ (l0 l1 l2 l3 l4 : Option Value) (s0 : Nat) (s1 : Int32) (h : sx_H), sx_Ev S 0 54 [l0, l1, l2, l3, l4] [.ref s0, .int s1] h = (sx_ints S h s0).bind fun v => sx_Ev S 0 55 [l0, l1, l2, l3, l4] [.int (Int32.ofNat v.length), .int s1] h) ∧
  (∀ (l0 l1 l2 l3 l4 : Option Value) (s0 : Int32) (s1 : Int32) (h : sx_H), sx_Ev S 0 55 [l0, l1, l2, l3, l4] [.int s0, .int s1] h = if s1 < s0 then sx_Ev S 0 58 [l0, l1, l2, l3, l4] [] h else sx_Ev S 0 67 [l0, l1, l2, l3, l4] [] h) ∧
  (∀ (l1 l2 l3 l4 : Option Value) (x : Nat) (h : sx_H), sx_Ev S 0 58 [some (.ref x), l1, l2, l3, l4] [] h = sx_Ev S 0 59 [some (.ref x), l1, l2, l3, l4] [.ref x] h) ∧
  (∀ (l0 l1 l2 l3 l4 : Option Value) (s0 : Nat) (h : sx_H), sx_Ev S 0 59 [l0, l1, l2, l3, l4] [.ref s0] h = (sx_fld h s0 0 6).bind fun v => sx_Ev S 0 62 [l0, l1, l2, l3, l4] [v] h) ∧
  (∀ (l0 l1 l2 l4 : Option Value) (s0 : Nat) (x : Int32) (h : sx_H), sx_Ev S 0 62 [l0, l1, l2, some (.int x), l4] [.ref s0] h = sx_Ev S 0 63 [l0, l1, l2, some (.int x), l4] [.int x, .ref s0] h) ∧
  (∀ (l0 l1 l2 l3 l4 : Option Value) (s0 : Int32) (s1 : Nat) (h : sx_H), sx_Ev S 0 63 [l0, l1, l2, l3, l4] [.int s0, .ref s1] h = (sx_rd S h s1 s0).bind fun v => sx_Ev S 0 64 [l0, l1, l2, l3, l4] [.int v] h) ∧
  (∀ (l0 l1 l2 l3 l4 : Option Value) (s0 : Int32) (h : sx_H), sx_Ev S 0 64 [l0, l1, l2, l3, l4] [.int s0] h = sx_Ev S 0 68 [l0, l1, l2, l3, l4] [.int s0] h) ∧
  (∀ (l0 l1 l2 l3 l4 : Option Value) (h : sx_H), sx_Ev S 0 67 [l0, l1, l2, l3, l4] [] h = sx_Ev S 0 68 [l0, l1, l2, l3, l4] [.int (sz (-1))] h) ∧
  (∀ (l0 l1 l2 l3 l4 : Option Value) (s0 : Int32) (h : sx_H), sx_Ev S 0 68 [l0, l1, l2, l3, l4] [.int s0] h = some (.inl (some (.int s0)), h)) := ⟨fun _ _ _ _ _ _ => sx_e_nx rfl rfl,
  fun _ _ _ _ _ _ _ => sx_e_nx rfl rfl,
  fun _ _ _ _ _ _ _ _ => sx_e_getf rfl rfl (by decide) rfl,
  fun _ _ _ _ _ _ _ _ => sx_e_nx rfl rfl,
  fun _ _ _ _ _ _ _ => sx_e_nx rfl rfl,
  fun _ _ _ _ _ _ _ _ => sx_e_nx rfl rfl,
  fun _ _ _ _ _ _ _ => sx_e_nx rfl rfl,
  fun _ _ _ _ _ _ => sx_e_nx rfl rfl,
  fun _ _ _ _ _ _ _ => sx_e_lt rfl (by decide) rfl,
  fun _ _ _ _ _ _ => sx_e_nx rfl rfl,
  fun _ _ _ _ _ _ _ => sx_e_nx rfl rfl,
  fun _ _ _ _ _ _ _ _ => sx_e_getf rfl rfl (by decide) rfl,
  fun _ _ _ _ _ _ _ _ => sx_e_ige rfl (by decide) rfl,
  fun _ _ _ _ _ _ => sx_e_nx rfl rfl,
  fun _ _ _ _ _ _ _ => sx_e_lt rfl (by decide) rfl,
  fun _ _ _ _ _ _ => sx_e_nx rfl rfl,
  fun _ _ _ _ _ _ _ => sx_e_nx rfl rfl,
  fun _ _ _ _ _ _ _ _ => sx_e_getf rfl rfl (by decide) rfl,
  fun _ _ _ _ _ _ _ _ => sx_e_ige rfl (by decide) rfl,
  fun _ _ _ _ _ _ => sx_e_nx rfl rfl,
  fun _ _ _ _ _ _ _ => sx_e_goto rfl (by decide),
  fun _ _ _ _ _ _ => sx_e_nx rfl rfl,
  fun _ _ _ _ _ _ _ => sx_e_nx rfl rfl,
  fun _ _ _ _ _ _ => sx_e_nx rfl rfl,
  fun _ _ _ _ _ _ _ => sx_e_eq rfl (by decide) rfl,
  fun _ _ _ _ _ _ => sx_e_nx rfl rfl,
  fun _ _ _ _ _ _ _ => sx_e_lt rfl (by decide) rfl,
  fun _ _ _ _ _ _ => sx_e_nx rfl rfl,
  fun _ _ _ _ _ _ _ => sx_e_nx rfl rfl,
  fun _ _ _ _ _ _ _ _ => sx_e_getf rfl rfl (by decide) rfl,
  fun _ _ _ _ _ _ _ _ => sx_e_alen rfl rfl,
  fun _ _ _ _ _ _ _ _ => sx_e_ige rfl (by decide) rfl,
  fun _ _ _ _ _ _ => sx_e_nx rfl rfl,
  fun _ _ _ _ _ _ _ => sx_e_getf rfl rfl (by decide) rfl,
  fun _ _ _ _ _ _ _ => sx_e_nx rfl rfl,
  fun _ _ _ _ _ _ _ _ => sx_e_iald rfl rfl,
  fun _ _ _ _ _ _ _ => sx_e_goto rfl (by decide),
  fun _ _ _ _ _ _ => sx_e_nx rfl rfl,
  fun _ _ _ _ _ _ _ => sx_e_ret rfl rfl rfl⟩
/-- 1: X0_repeatsBy (LBeadslant$Cloth;I)Z -/
theorem c1_q (S : List Int32) : ∀ (a0 : Nat) (a1 : Int32) (h : sx_H), sx_Cl S 1 [.ref a0, .int a1] h = sx_Ev S 1 0 [some (.ref a0), some (.int a1), none, none] [] h := fun _ _ _ => rfl
theorem h1_2 (S : List Int32) : (∀ (l0 l1 l3 : Option Value) (x : Int32) (h : sx_H), sx_Ev S 1 2 [l0, l1, some (.int x), l3] [] h = sx_Ev S 1 3 [l0, l1, some (.int x), l3] [.int x] h) := fun _ _ _ _ _ => sx_e_nx rfl rfl
theorem h1_12 (S : List Int32) : (∀ (l0 l1 l2 : Option Value) (x : Int32) (h : sx_H), sx_Ev S 1 12 [l0, l1, l2, some (.int x)] [] h = sx_Ev S 1 13 [l0, l1, l2, some (.int x)] [.int x] h) := fun _ _ _ _ _ => sx_e_nx rfl rfl
theorem q1 (S : List Int32) : (∀ (l0 l1 l2 l3 : Option Value) (h : sx_H), sx_Ev S 1 0 [l0, l1, l2, l3] [] h = sx_Ev S 1 1 [l0, l1, l2, l3] [.int (sz (0))] h) ∧
  (∀ (l0 l1 l2 l3 : Option Value) (s0 : Int32) (h : sx_H), sx_Ev S 1 1 [l0, l1, l2, l3] [.int s0] h = sx_Ev S 1 2 [l0, l1, some (.int s0), l3] [] h) ∧
  (∀ (l1 l2 l3 : Option Value) (s0 : Int32) (x : Nat) (h : sx_H), sx_Ev S 1 3 [some (.ref x), l1, l2, l3] [.int s0] h = sx_Ev S 1 4 [some (.ref x), l1, l2, l3] [.ref x, .int s0] h) ∧
  (∀ (l0 l1 l2 l3 : Option Value) (s0 : Nat) (s1 : Int32) (h : sx_H), sx_Ev S 1 4 [l0, l1, l2, l3] [.ref s0, .int s1] h = (sx_fld h s0 0 3).bind fun v => sx_Ev S 1 7 [l0, l1, l2, l3] [v, .int s1] h) ∧
  (∀ (l0 l1 l2 l3 : Option Value) (s0 : Int32) (s1 : Int32) (h : sx_H), sx_Ev S 1 7 [l0, l1, l2, l3] [.int s0, .int s1] h = if s1 < s0 then sx_Ev S 1 10 [l0, l1, l2, l3] [] h else sx_Ev S 1 53 [l0, l1, l2, l3] [] h) ∧
  (∀ (l0 l1 l2 l3 : Option Value) (h : sx_H), sx_Ev S 1 10 [l0, l1, l2, l3] [] h = sx_Ev S 1 11 [l0, l1, l2, l3] [.int (sz (0))] h) ∧
  (∀ (l0 l1 l2 l3 : Option Value) (s0 : Int32) (h : sx_H), sx_Ev S 1 11 [l0, l1, l2, l3] [.int s0] h = sx_Ev S 1 12 [l0, l1, l2, some (.int s0)] [] h) ∧
  (∀ (l0 l2 l3 : Option Value) (s0 : Int32) (x : Int32) (h : sx_H), sx_Ev S 1 13 [l0, some (.int x), l2, l3] [.int s0] h = sx_Ev S 1 14 [l0, some (.int x), l2, l3] [.int x, .int s0] h) ∧
  (∀ (l0 l1 l2 l3 : Option Value) (s0 : Int32) (s1 : Int32) (h : sx_H), sx_Ev S 1 14 [l0, l1, l2, l3] [.int s0, .int s1] h = sx_Ev S 1 15 [l0, l1, l2, l3] [.int (s1 + s0)] h) ∧
  (∀ (l1 l2 l3 : Option Value) (s0 : Int32) (x : Nat) (h : sx_H), sx_Ev S 1 15 [some (.ref x), l1, l2, l3] [.int s0] h = sx_Ev S 1 16 [some (.ref x), l1, l2, l3] [.ref x, .int s0] h) ∧
  (∀ (l0 l1 l2 l3 : Option Value) (s0 : Nat) (s1 : Int32) (h : sx_H), sx_Ev S 1 16 [l0, l1, l2, l3] [.ref s0, .int s1] h = (sx_fld h s0 0 2).bind fun v => sx_Ev S 1 19 [l0, l1, l2, l3] [v, .int s1] h) ∧
  (∀ (l0 l1 l2 l3 : Option Value) (s0 : Int32) (s1 : Int32) (h : sx_H), sx_Ev S 1 19 [l0, l1, l2, l3] [.int s0, .int s1] h = if s1 < s0 then sx_Ev S 1 22 [l0, l1, l2, l3] [] h else sx_Ev S 1 47 [l0, l1, l2, l3] [] h) ∧
  (∀ (l1 l2 l3 : Option Value) (x : Nat) (h : sx_H), sx_Ev S 1 22 [some (.ref x), l1, l2, l3] [] h = sx_Ev S 1 23 [some (.ref x), l1, l2, l3] [.ref x] h) ∧
  (∀ (l0 l1 l3 : Option Value) (s0 : Nat) (x : Int32) (h : sx_H), sx_Ev S 1 23 [l0, l1, some (.int x), l3] [.ref s0] h = sx_Ev S 1 24 [l0, l1, some (.int x), l3] [.int x, .ref s0] h) ∧
  (∀ (l0 l1 l2 : Option Value) (s0 : Int32) (s1 : Nat) (x : Int32) (h : sx_H), sx_Ev S 1 24 [l0, l1, l2, some (.int x)] [.int s0, .ref s1] h = sx_Ev S 1 25 [l0, l1, l2, some (.int x)] [.int x, .int s0, .ref s1] h) ∧
  (∀ (l0 l1 l2 l3 : Option Value) (s0 : Int32) (s1 : Int32) (s2 : Nat) (h : sx_H), sx_klass h s2 = some 0 → sx_Ev S 1 25 [l0, l1, l2, l3] [.int s0, .int s1, .ref s2] h = sx_back S 1 25 [l0, l1, l2, l3] [] (sx_Cl S 0 [.ref s2, .int s1, .int s0] h)) ∧
  (∀ (ls : sx_L) (st : List Value) (v : Value) (h : sx_H), sx_back S 1 25 ls st (some (.inl (some v), h)) = sx_Ev S 1 28 ls (v :: st) h) ∧
  (∀ (ls : sx_L) (st : List Value) (e : Nat) (h : sx_H), sx_back S 1 25 ls st (some (.inr e, h)) = some (.inr e, h)) ∧
  (∀ (l1 l2 l3 : Option Value) (s0 : Int32) (x : Nat) (h : sx_H), sx_Ev S 1 28 [some (.ref x), l1, l2, l3] [.int s0] h = sx_Ev S 1 29 [some (.ref x), l1, l2, l3] [.ref x, .int s0] h) ∧
  (∀ (l0 l1 l3 : Option Value) (s0 : Nat) (s1 : Int32) (x : Int32) (h : sx_H), sx_Ev S 1 29 [l0, l1, some (.int x), l3] [.ref s0, .int s1] h = sx_Ev S 1 30 [l0, l1, some (.int x), l3] [.int x, .ref s0, .int s1] h) ∧
  (∀ (l0 l1 l2 : Option Value) (s0 : Int32) (s1 : Nat) (s2 : Int32) (x : Int32) (h : sx_H), sx_Ev S 1 30 [l0, l1, l2, some (.int x)] [.int s0, .ref s1, .int s2] h = sx_Ev S 1 31 [l0, l1, l2, some (.int x)] [.int x, .int s0, .ref s1, .int s2] h) ∧
  (∀ (l0 l2 l3 : Option Value) (s0 : Int32) (s1 : Int32) (s2 : Nat) (s3 : Int32) (x : Int32) (h : sx_H), sx_Ev S 1 31 [l0, some (.int x), l2, l3] [.int s0, .int s1, .ref s2, .int s3] h = sx_Ev S 1 32 [l0, some (.int x), l2, l3] [.int x, .int s0, .int s1, .ref s2, .int s3] h) ∧
  (∀ (l0 l1 l2 l3 : Option Value) (s0 : Int32) (s1 : Int32) (s2 : Int32) (s3 : Nat) (s4 : Int32) (h : sx_H), sx_Ev S 1 32 [l0, l1, l2, l3] [.int s0, .int s1, .int s2, .ref s3, .int s4] h = sx_Ev S 1 33 [l0, l1, l2, l3] [.int (s1 + s0), .int s2, .ref s3, .int s4] h) ∧
  (∀ (l0 l1 l2 l3 : Option Value) (s0 : Int32) (s1 : Int32) (s2 : Nat) (s3 : Int32) (h : sx_H), sx_klass h s2 = some 0 → sx_Ev S 1 33 [l0, l1, l2, l3] [.int s0, .int s1, .ref s2, .int s3] h = sx_back S 1 33 [l0, l1, l2, l3] [.int s3] (sx_Cl S 0 [.ref s2, .int s1, .int s0] h)) ∧
  (∀ (ls : sx_L) (st : List Value) (v : Value) (h : sx_H), sx_back S 1 33 ls st (some (.inl (some v), h)) = sx_Ev S 1 36 ls (v :: st) h) ∧
  (∀ (ls : sx_L) (st : List Value) (e : Nat) (h : sx_H), sx_back S 1 33 ls st (some (.inr e, h)) = some (.inr e, h)) ∧
  (∀ (l0 l1 l2 l3 : Option Value) (s0 : Int32) (s1 : Int32) (h : sx_H), sx_Ev S 1 36 [l0, l1, l2, l3] [.int s0, .int s1] h = if s1 = s0 then sx_Ev S 1 41 [l0, l1, l2, l3] [] h else sx_Ev S 1 39 [l0, l1, l2, l3] [] h) ∧
  (∀ (l0 l1 l2 l3 : Option Value) (h : sx_H), sx_Ev S 1 39 [l0, l1, l2, l3] [] h = sx_Ev S 1 40 [l0, l1, l2, l3] [.int (sz (0))] h) ∧
  (∀ (l0 l1 l2 l3 : Option Value) (s0 : Int32) (h : sx_H), narrow .boolean (.int s0) = .int s0 → sx_Ev S 1 40 [l0, l1, l2, l3] [.int s0] h = some (.inl (some (.int s0)), h)) ∧
  (∀ (l0 l1 l2 : Option Value) (x : Int32) (h : sx_H), sx_Ev S 1 41 [l0, l1, l2, some (.int x)] [] h = sx_Ev S 1 44 [l0, l1, l2, some (.int (x + sz (1)))] [] h) ∧
  (∀ (l0 l1 l2 l3 : Option Value) (h : sx_H), sx_Ev S 1 44 [l0, l1, l2, l3] [] h = sx_Ev S 1 12 [l0, l1, l2, l3] [] h) ∧
  (∀ (l0 l1 l3 : Option Value) (x : Int32) (h : sx_H), sx_Ev S 1 47 [l0, l1, some (.int x), l3] [] h = sx_Ev S 1 50 [l0, l1, some (.int (x + sz (1))), l3] [] h) ∧
  (∀ (l0 l1 l2 l3 : Option Value) (h : sx_H), sx_Ev S 1 50 [l0, l1, l2, l3] [] h = sx_Ev S 1 2 [l0, l1, l2, l3] [] h) ∧
  (∀ (l0 l1 l2 l3 : Option Value) (h : sx_H), sx_Ev S 1 53 [l0, l1, l2, l3] [] h = sx_Ev S 1 54 [l0, l1, l2, l3] [.int (sz (1))] h) ∧
  (∀ (l0 l1 l2 l3 : Option Value) (s0 : Int32) (h : sx_H), narrow .boolean (.int s0) = .int s0 → sx_Ev S 1 54 [l0, l1, l2, l3] [.int s0] h = some (.inl (some (.int s0)), h)) := ⟨fun _ _ _ _ _ => sx_e_nx rfl rfl,
  fun _ _ _ _ _ _ => sx_e_nx rfl rfl,
  fun _ _ _ _ _ _ => sx_e_nx rfl rfl,
  fun _ _ _ _ _ _ _ => sx_e_getf rfl rfl (by decide) rfl,
  fun _ _ _ _ _ _ _ => sx_e_ige rfl (by decide) rfl,
  fun _ _ _ _ _ => sx_e_nx rfl rfl,
  fun _ _ _ _ _ _ => sx_e_nx rfl rfl,
  fun _ _ _ _ _ _ => sx_e_nx rfl rfl,
  fun _ _ _ _ _ _ _ => sx_e_nx rfl rfl,
  fun _ _ _ _ _ _ => sx_e_nx rfl rfl,
  fun _ _ _ _ _ _ _ => sx_e_getf rfl rfl (by decide) rfl,
  fun _ _ _ _ _ _ _ => sx_e_ige rfl (by decide) rfl,
  fun _ _ _ _ _ => sx_e_nx rfl rfl,
  fun _ _ _ _ _ _ => sx_e_nx rfl rfl,
  fun _ _ _ _ _ _ _ => sx_e_nx rfl rfl,
  fun _ _ _ _ _ _ _ _ hv => sx_e_virt rfl rfl ⟨Nat.le_of_ble_eq_true rfl, Nat.le_of_ble_eq_true rfl, rfl⟩ rfl rfl rfl hv,
  fun _ _ _ _ => rfl,
  fun _ _ _ _ => rfl,
  fun _ _ _ _ _ _ => sx_e_nx rfl rfl,
  fun _ _ _ _ _ _ _ => sx_e_nx rfl rfl,
  fun _ _ _ _ _ _ _ _ => sx_e_nx rfl rfl,
  fun _ _ _ _ _ _ _ _ _ => sx_e_nx rfl rfl,
  fun _ _ _ _ _ _ _ _ _ _ => sx_e_nx rfl rfl,
  fun _ _ _ _ _ _ _ _ _ hv => sx_e_virt rfl rfl ⟨Nat.le_of_ble_eq_true rfl, Nat.le_of_ble_eq_true rfl, rfl⟩ rfl rfl rfl hv,
  fun _ _ _ _ => rfl,
  fun _ _ _ _ => rfl,
  fun _ _ _ _ _ _ _ => sx_e_ieq rfl (by decide) rfl,
  fun _ _ _ _ _ => sx_e_nx rfl rfl,
  fun _ _ _ _ _ _ hv => sx_e_ret rfl rfl hv,
  fun _ _ _ _ _ => sx_e_nx rfl rfl,
  fun _ _ _ _ _ => sx_e_goto rfl (by decide),
  fun _ _ _ _ _ => sx_e_nx rfl rfl,
  fun _ _ _ _ _ => sx_e_goto rfl (by decide),
  fun _ _ _ _ _ => sx_e_nx rfl rfl,
  fun _ _ _ _ _ _ hv => sx_e_ret rfl rfl hv⟩
/-- 2: X0_leastRepeat (LBeadslant$Cloth;)I -/
theorem c2_q (S : List Int32) : ∀ (a0 : Nat) (h : sx_H), sx_Cl S 2 [.ref a0] h = sx_Ev S 2 0 [some (.ref a0), none] [] h := fun _ _ => rfl
theorem h2_2 (S : List Int32) : (∀ (l0 : Option Value) (x : Int32) (h : sx_H), sx_Ev S 2 2 [l0, some (.int x)] [] h = sx_Ev S 2 3 [l0, some (.int x)] [.int x] h) := fun _ _ _ => sx_e_nx rfl rfl
theorem q2 (S : List Int32) : (∀ (l0 l1 : Option Value) (h : sx_H), sx_Ev S 2 0 [l0, l1] [] h = sx_Ev S 2 1 [l0, l1] [.int (sz (1))] h) ∧
  (∀ (l0 l1 : Option Value) (s0 : Int32) (h : sx_H), sx_Ev S 2 1 [l0, l1] [.int s0] h = sx_Ev S 2 2 [l0, some (.int s0)] [] h) ∧
  (∀ (l1 : Option Value) (s0 : Int32) (x : Nat) (h : sx_H), sx_Ev S 2 3 [some (.ref x), l1] [.int s0] h = sx_Ev S 2 4 [some (.ref x), l1] [.ref x, .int s0] h) ∧
  (∀ (l0 l1 : Option Value) (s0 : Nat) (s1 : Int32) (h : sx_H), sx_Ev S 2 4 [l0, l1] [.ref s0, .int s1] h = (sx_fld h s0 0 2).bind fun v => sx_Ev S 2 7 [l0, l1] [v, .int s1] h) ∧
  (∀ (l0 l1 : Option Value) (s0 : Int32) (s1 : Int32) (h : sx_H), sx_Ev S 2 7 [l0, l1] [.int s0, .int s1] h = if s1 < s0 then sx_Ev S 2 10 [l0, l1] [] h else sx_Ev S 2 26 [l0, l1] [] h) ∧
  (∀ (l1 : Option Value) (x : Nat) (h : sx_H), sx_Ev S 2 10 [some (.ref x), l1] [] h = sx_Ev S 2 11 [some (.ref x), l1] [.ref x] h) ∧
  (∀ (l0 : Option Value) (s0 : Nat) (x : Int32) (h : sx_H), sx_Ev S 2 11 [l0, some (.int x)] [.ref s0] h = sx_Ev S 2 12 [l0, some (.int x)] [.int x, .ref s0] h) ∧
  (∀ (l0 l1 : Option Value) (s0 : Int32) (s1 : Nat) (h : sx_H), sx_Ev S 2 12 [l0, l1] [.int s0, .ref s1] h = sx_back S 2 12 [l0, l1] [] (sx_Cl S 1 [.ref s1, .int s0] h)) ∧
  (∀ (ls : sx_L) (st : List Value) (v : Value) (h : sx_H), sx_back S 2 12 ls st (some (.inl (some v), h)) = sx_Ev S 2 15 ls (v :: st) h) ∧
  (∀ (ls : sx_L) (st : List Value) (e : Nat) (h : sx_H), sx_back S 2 12 ls st (some (.inr e, h)) = some (.inr e, h)) ∧
  (∀ (l0 l1 : Option Value) (s0 : Int32) (h : sx_H), sx_Ev S 2 15 [l0, l1] [.int s0] h = if s0 = 0 then sx_Ev S 2 20 [l0, l1] [] h else sx_Ev S 2 18 [l0, l1] [] h) ∧
  (∀ (l0 : Option Value) (x : Int32) (h : sx_H), sx_Ev S 2 18 [l0, some (.int x)] [] h = sx_Ev S 2 19 [l0, some (.int x)] [.int x] h) ∧
  (∀ (l0 l1 : Option Value) (s0 : Int32) (h : sx_H), sx_Ev S 2 19 [l0, l1] [.int s0] h = some (.inl (some (.int s0)), h)) ∧
  (∀ (l0 : Option Value) (x : Int32) (h : sx_H), sx_Ev S 2 20 [l0, some (.int x)] [] h = sx_Ev S 2 23 [l0, some (.int (x + sz (1)))] [] h) ∧
  (∀ (l0 l1 : Option Value) (h : sx_H), sx_Ev S 2 23 [l0, l1] [] h = sx_Ev S 2 2 [l0, l1] [] h) ∧
  (∀ (l1 : Option Value) (x : Nat) (h : sx_H), sx_Ev S 2 26 [some (.ref x), l1] [] h = sx_Ev S 2 27 [some (.ref x), l1] [.ref x] h) ∧
  (∀ (l0 l1 : Option Value) (s0 : Nat) (h : sx_H), sx_Ev S 2 27 [l0, l1] [.ref s0] h = (sx_fld h s0 0 2).bind fun v => sx_Ev S 2 30 [l0, l1] [v] h) ∧
  (∀ (l0 l1 : Option Value) (s0 : Int32) (h : sx_H), sx_Ev S 2 30 [l0, l1] [.int s0] h = some (.inl (some (.int s0)), h)) := ⟨fun _ _ _ => sx_e_nx rfl rfl,
  fun _ _ _ _ => sx_e_nx rfl rfl,
  fun _ _ _ _ => sx_e_nx rfl rfl,
  fun _ _ _ _ _ => sx_e_getf rfl rfl (by decide) rfl,
  fun _ _ _ _ _ => sx_e_ige rfl (by decide) rfl,
  fun _ _ _ => sx_e_nx rfl rfl,
  fun _ _ _ _ => sx_e_nx rfl rfl,
  fun _ _ _ _ _ => sx_e_ca rfl rfl,
  fun _ _ _ _ => rfl,
  fun _ _ _ _ => rfl,
  fun _ _ _ _ => sx_e_eq rfl (by decide) rfl,
  fun _ _ _ => sx_e_nx rfl rfl,
  fun _ _ _ _ => sx_e_ret rfl rfl rfl,
  fun _ _ _ => sx_e_nx rfl rfl,
  fun _ _ _ => sx_e_goto rfl (by decide),
  fun _ _ _ => sx_e_nx rfl rfl,
  fun _ _ _ _ => sx_e_getf rfl rfl (by decide) rfl,
  fun _ _ _ _ => sx_e_ret rfl rfl rfl⟩
/-- 3: X0_readsAlikeBack (LBeadslant$Cloth;)Z -/
theorem c3_q (S : List Int32) : ∀ (a0 : Nat) (h : sx_H), sx_Cl S 3 [.ref a0] h = sx_Ev S 3 0 [some (.ref a0), none, none] [] h := fun _ _ => rfl
theorem h3_2 (S : List Int32) : (∀ (l0 l2 : Option Value) (x : Int32) (h : sx_H), sx_Ev S 3 2 [l0, some (.int x), l2] [] h = sx_Ev S 3 3 [l0, some (.int x), l2] [.int x] h) := fun _ _ _ _ => sx_e_nx rfl rfl
theorem h3_12 (S : List Int32) : (∀ (l0 l1 : Option Value) (x : Int32) (h : sx_H), sx_Ev S 3 12 [l0, l1, some (.int x)] [] h = sx_Ev S 3 13 [l0, l1, some (.int x)] [.int x] h) := fun _ _ _ _ => sx_e_nx rfl rfl
theorem q3 (S : List Int32) : (∀ (l0 l1 l2 : Option Value) (h : sx_H), sx_Ev S 3 0 [l0, l1, l2] [] h = sx_Ev S 3 1 [l0, l1, l2] [.int (sz (0))] h) ∧
  (∀ (l0 l1 l2 : Option Value) (s0 : Int32) (h : sx_H), sx_Ev S 3 1 [l0, l1, l2] [.int s0] h = sx_Ev S 3 2 [l0, some (.int s0), l2] [] h) ∧
  (∀ (l1 l2 : Option Value) (s0 : Int32) (x : Nat) (h : sx_H), sx_Ev S 3 3 [some (.ref x), l1, l2] [.int s0] h = sx_Ev S 3 4 [some (.ref x), l1, l2] [.ref x, .int s0] h) ∧
  (∀ (l0 l1 l2 : Option Value) (s0 : Nat) (s1 : Int32) (h : sx_H), sx_Ev S 3 4 [l0, l1, l2] [.ref s0, .int s1] h = (sx_fld h s0 0 3).bind fun v => sx_Ev S 3 7 [l0, l1, l2] [v, .int s1] h) ∧
  (∀ (l0 l1 l2 : Option Value) (s0 : Int32) (s1 : Int32) (h : sx_H), sx_Ev S 3 7 [l0, l1, l2] [.int s0, .int s1] h = if s1 < s0 then sx_Ev S 3 10 [l0, l1, l2] [] h else sx_Ev S 3 56 [l0, l1, l2] [] h) ∧
  (∀ (l0 l1 l2 : Option Value) (h : sx_H), sx_Ev S 3 10 [l0, l1, l2] [] h = sx_Ev S 3 11 [l0, l1, l2] [.int (sz (0))] h) ∧
  (∀ (l0 l1 l2 : Option Value) (s0 : Int32) (h : sx_H), sx_Ev S 3 11 [l0, l1, l2] [.int s0] h = sx_Ev S 3 12 [l0, l1, some (.int s0)] [] h) ∧
  (∀ (l1 l2 : Option Value) (s0 : Int32) (x : Nat) (h : sx_H), sx_Ev S 3 13 [some (.ref x), l1, l2] [.int s0] h = sx_Ev S 3 14 [some (.ref x), l1, l2] [.ref x, .int s0] h) ∧
  (∀ (l0 l1 l2 : Option Value) (s0 : Nat) (s1 : Int32) (h : sx_H), sx_Ev S 3 14 [l0, l1, l2] [.ref s0, .int s1] h = (sx_fld h s0 0 2).bind fun v => sx_Ev S 3 17 [l0, l1, l2] [v, .int s1] h) ∧
  (∀ (l0 l1 l2 : Option Value) (s0 : Int32) (s1 : Int32) (h : sx_H), sx_Ev S 3 17 [l0, l1, l2] [.int s0, .int s1] h = if s1 < s0 then sx_Ev S 3 20 [l0, l1, l2] [] h else sx_Ev S 3 50 [l0, l1, l2] [] h) ∧
  (∀ (l1 l2 : Option Value) (x : Nat) (h : sx_H), sx_Ev S 3 20 [some (.ref x), l1, l2] [] h = sx_Ev S 3 21 [some (.ref x), l1, l2] [.ref x] h) ∧
  (∀ (l0 l2 : Option Value) (s0 : Nat) (x : Int32) (h : sx_H), sx_Ev S 3 21 [l0, some (.int x), l2] [.ref s0] h = sx_Ev S 3 22 [l0, some (.int x), l2] [.int x, .ref s0] h) ∧
  (∀ (l0 l1 : Option Value) (s0 : Int32) (s1 : Nat) (x : Int32) (h : sx_H), sx_Ev S 3 22 [l0, l1, some (.int x)] [.int s0, .ref s1] h = sx_Ev S 3 23 [l0, l1, some (.int x)] [.int x, .int s0, .ref s1] h) ∧
  (∀ (l0 l1 l2 : Option Value) (s0 : Int32) (s1 : Int32) (s2 : Nat) (h : sx_H), sx_klass h s2 = some 0 → sx_Ev S 3 23 [l0, l1, l2] [.int s0, .int s1, .ref s2] h = sx_back S 3 23 [l0, l1, l2] [] (sx_Cl S 0 [.ref s2, .int s1, .int s0] h)) ∧
  (∀ (ls : sx_L) (st : List Value) (v : Value) (h : sx_H), sx_back S 3 23 ls st (some (.inl (some v), h)) = sx_Ev S 3 26 ls (v :: st) h) ∧
  (∀ (ls : sx_L) (st : List Value) (e : Nat) (h : sx_H), sx_back S 3 23 ls st (some (.inr e, h)) = some (.inr e, h)) ∧
  (∀ (l1 l2 : Option Value) (s0 : Int32) (x : Nat) (h : sx_H), sx_Ev S 3 26 [some (.ref x), l1, l2] [.int s0] h = sx_Ev S 3 27 [some (.ref x), l1, l2] [.ref x, .int s0] h) ∧
  (∀ (l0 l2 : Option Value) (s0 : Nat) (s1 : Int32) (x : Int32) (h : sx_H), sx_Ev S 3 27 [l0, some (.int x), l2] [.ref s0, .int s1] h = sx_Ev S 3 28 [l0, some (.int x), l2] [.int x, .ref s0, .int s1] h) ∧
  (∀ (l1 l2 : Option Value) (s0 : Int32) (s1 : Nat) (s2 : Int32) (x : Nat) (h : sx_H), sx_Ev S 3 28 [some (.ref x), l1, l2] [.int s0, .ref s1, .int s2] h = sx_Ev S 3 29 [some (.ref x), l1, l2] [.ref x, .int s0, .ref s1, .int s2] h) ∧
  (∀ (l0 l1 l2 : Option Value) (s0 : Nat) (s1 : Int32) (s2 : Nat) (s3 : Int32) (h : sx_H), sx_Ev S 3 29 [l0, l1, l2] [.ref s0, .int s1, .ref s2, .int s3] h = (sx_fld h s0 0 2).bind fun v => sx_Ev S 3 32 [l0, l1, l2] [v, .int s1, .ref s2, .int s3] h) ∧
  (∀ (l0 l1 l2 : Option Value) (s0 : Int32) (s1 : Int32) (s2 : Nat) (s3 : Int32) (h : sx_H), sx_Ev S 3 32 [l0, l1, l2] [.int s0, .int s1, .ref s2, .int s3] h = sx_Ev S 3 33 [l0, l1, l2] [.int (sz (1)), .int s0, .int s1, .ref s2, .int s3] h) ∧
  (∀ (l0 l1 l2 : Option Value) (s0 : Int32) (s1 : Int32) (s2 : Int32) (s3 : Nat) (s4 : Int32) (h : sx_H), sx_Ev S 3 33 [l0, l1, l2] [.int s0, .int s1, .int s2, .ref s3, .int s4] h = sx_Ev S 3 34 [l0, l1, l2] [.int (s1 - s0), .int s2, .ref s3, .int s4] h) ∧
  (∀ (l0 l1 : Option Value) (s0 : Int32) (s1 : Int32) (s2 : Nat) (s3 : Int32) (x : Int32) (h : sx_H), sx_Ev S 3 34 [l0, l1, some (.int x)] [.int s0, .int s1, .ref s2, .int s3] h = sx_Ev S 3 35 [l0, l1, some (.int x)] [.int x, .int s0, .int s1, .ref s2, .int s3] h) ∧
  (∀ (l0 l1 l2 : Option Value) (s0 : Int32) (s1 : Int32) (s2 : Int32) (s3 : Nat) (s4 : Int32) (h : sx_H), sx_Ev S 3 35 [l0, l1, l2] [.int s0, .int s1, .int s2, .ref s3, .int s4] h = sx_Ev S 3 36 [l0, l1, l2] [.int (s1 - s0), .int s2, .ref s3, .int s4] h) ∧
  (∀ (l0 l1 l2 : Option Value) (s0 : Int32) (s1 : Int32) (s2 : Nat) (s3 : Int32) (h : sx_H), sx_klass h s2 = some 0 → sx_Ev S 3 36 [l0, l1, l2] [.int s0, .int s1, .ref s2, .int s3] h = sx_back S 3 36 [l0, l1, l2] [.int s3] (sx_Cl S 0 [.ref s2, .int s1, .int s0] h)) ∧
  (∀ (ls : sx_L) (st : List Value) (v : Value) (h : sx_H), sx_back S 3 36 ls st (some (.inl (some v), h)) = sx_Ev S 3 39 ls (v :: st) h) ∧
  (∀ (ls : sx_L) (st : List Value) (e : Nat) (h : sx_H), sx_back S 3 36 ls st (some (.inr e, h)) = some (.inr e, h)) ∧
  (∀ (l0 l1 l2 : Option Value) (s0 : Int32) (s1 : Int32) (h : sx_H), sx_Ev S 3 39 [l0, l1, l2] [.int s0, .int s1] h = if s1 = s0 then sx_Ev S 3 44 [l0, l1, l2] [] h else sx_Ev S 3 42 [l0, l1, l2] [] h) ∧
  (∀ (l0 l1 l2 : Option Value) (h : sx_H), sx_Ev S 3 42 [l0, l1, l2] [] h = sx_Ev S 3 43 [l0, l1, l2] [.int (sz (0))] h) ∧
  (∀ (l0 l1 l2 : Option Value) (s0 : Int32) (h : sx_H), narrow .boolean (.int s0) = .int s0 → sx_Ev S 3 43 [l0, l1, l2] [.int s0] h = some (.inl (some (.int s0)), h)) ∧
  (∀ (l0 l1 : Option Value) (x : Int32) (h : sx_H), sx_Ev S 3 44 [l0, l1, some (.int x)] [] h = sx_Ev S 3 47 [l0, l1, some (.int (x + sz (1)))] [] h) ∧
  (∀ (l0 l1 l2 : Option Value) (h : sx_H), sx_Ev S 3 47 [l0, l1, l2] [] h = sx_Ev S 3 12 [l0, l1, l2] [] h) ∧
  (∀ (l0 l2 : Option Value) (x : Int32) (h : sx_H), sx_Ev S 3 50 [l0, some (.int x), l2] [] h = sx_Ev S 3 53 [l0, some (.int (x + sz (1))), l2] [] h) ∧
  (∀ (l0 l1 l2 : Option Value) (h : sx_H), sx_Ev S 3 53 [l0, l1, l2] [] h = sx_Ev S 3 2 [l0, l1, l2] [] h) ∧
  (∀ (l0 l1 l2 : Option Value) (h : sx_H), sx_Ev S 3 56 [l0, l1, l2] [] h = sx_Ev S 3 57 [l0, l1, l2] [.int (sz (1))] h) ∧
  (∀ (l0 l1 l2 : Option Value) (s0 : Int32) (h : sx_H), narrow .boolean (.int s0) = .int s0 → sx_Ev S 3 57 [l0, l1, l2] [.int s0] h = some (.inl (some (.int s0)), h)) := ⟨fun _ _ _ _ => sx_e_nx rfl rfl,
  fun _ _ _ _ _ => sx_e_nx rfl rfl,
  fun _ _ _ _ _ => sx_e_nx rfl rfl,
  fun _ _ _ _ _ _ => sx_e_getf rfl rfl (by decide) rfl,
  fun _ _ _ _ _ _ => sx_e_ige rfl (by decide) rfl,
  fun _ _ _ _ => sx_e_nx rfl rfl,
  fun _ _ _ _ _ => sx_e_nx rfl rfl,
  fun _ _ _ _ _ => sx_e_nx rfl rfl,
  fun _ _ _ _ _ _ => sx_e_getf rfl rfl (by decide) rfl,
  fun _ _ _ _ _ _ => sx_e_ige rfl (by decide) rfl,
  fun _ _ _ _ => sx_e_nx rfl rfl,
  fun _ _ _ _ _ => sx_e_nx rfl rfl,
  fun _ _ _ _ _ _ => sx_e_nx rfl rfl,
  fun _ _ _ _ _ _ _ hv => sx_e_virt rfl rfl ⟨Nat.le_of_ble_eq_true rfl, Nat.le_of_ble_eq_true rfl, rfl⟩ rfl rfl rfl hv,
  fun _ _ _ _ => rfl,
  fun _ _ _ _ => rfl,
  fun _ _ _ _ _ => sx_e_nx rfl rfl,
  fun _ _ _ _ _ _ => sx_e_nx rfl rfl,
  fun _ _ _ _ _ _ _ => sx_e_nx rfl rfl,
  fun _ _ _ _ _ _ _ _ => sx_e_getf rfl rfl (by decide) rfl,
  fun _ _ _ _ _ _ _ _ => sx_e_nx rfl rfl,
  fun _ _ _ _ _ _ _ _ _ => sx_e_nx rfl rfl,
  fun _ _ _ _ _ _ _ _ => sx_e_nx rfl rfl,
  fun _ _ _ _ _ _ _ _ _ => sx_e_nx rfl rfl,
  fun _ _ _ _ _ _ _ _ hv => sx_e_virt rfl rfl ⟨Nat.le_of_ble_eq_true rfl, Nat.le_of_ble_eq_true rfl, rfl⟩ rfl rfl rfl hv,
  fun _ _ _ _ => rfl,
  fun _ _ _ _ => rfl,
  fun _ _ _ _ _ _ => sx_e_ieq rfl (by decide) rfl,
  fun _ _ _ _ => sx_e_nx rfl rfl,
  fun _ _ _ _ _ hv => sx_e_ret rfl rfl hv,
  fun _ _ _ _ => sx_e_nx rfl rfl,
  fun _ _ _ _ => sx_e_goto rfl (by decide),
  fun _ _ _ _ => sx_e_nx rfl rfl,
  fun _ _ _ _ => sx_e_goto rfl (by decide),
  fun _ _ _ _ => sx_e_nx rfl rfl,
  fun _ _ _ _ _ hv => sx_e_ret rfl rfl hv⟩
/-- 4: X0_isBegin (LBeadslant$Cloth;IIZ)Z -/
theorem c4_q (S : List Int32) : ∀ (a0 : Nat) (a1 : Int32) (a2 : Int32) (a3 : Int32) (h : sx_H), sx_Cl S 4 [.ref a0, .int a1, .int a2, .int a3] h = sx_Ev S 4 0 [some (.ref a0), some (.int a1), some (.int a2), some (.int a3), none] [] h := fun _ _ _ _ _ => rfl
theorem q4 (S : List Int32) : (∀ (l1 l2 l3 l4 : Option Value) (x : Nat) (h : sx_H), sx_Ev S 4 0 [some (.ref x), l1, l2, l3, l4] [] h = sx_Ev S 4 1 [some (.ref x), l1, l2, l3, l4] [.ref x] h) ∧
  (∀ (l0 l2 l3 l4 : Option Value) (s0 : Nat) (x : Int32) (h : sx_H), sx_Ev S 4 1 [l0, some (.int x), l2, l3, l4] [.ref s0] h = sx_Ev S 4 2 [l0, some (.int x), l2, l3, l4] [.int x, .ref s0] h) ∧
  (∀ (l0 l1 l3 l4 : Option Value) (s0 : Int32) (s1 : Nat) (x : Int32) (h : sx_H), sx_Ev S 4 2 [l0, l1, some (.int x), l3, l4] [.int s0, .ref s1] h = sx_Ev S 4 3 [l0, l1, some (.int x), l3, l4] [.int x, .int s0, .ref s1] h) ∧
  (∀ (l0 l1 l2 l3 l4 : Option Value) (s0 : Int32) (s1 : Int32) (s2 : Nat) (h : sx_H), sx_klass h s2 = some 0 → sx_Ev S 4 3 [l0, l1, l2, l3, l4] [.int s0, .int s1, .ref s2] h = sx_back S 4 3 [l0, l1, l2, l3, l4] [] (sx_Cl S 0 [.ref s2, .int s1, .int s0] h)) ∧
  (∀ (ls : sx_L) (st : List Value) (v : Value) (h : sx_H), sx_back S 4 3 ls st (some (.inl (some v), h)) = sx_Ev S 4 6 ls (v :: st) h) ∧
  (∀ (ls : sx_L) (st : List Value) (e : Nat) (h : sx_H), sx_back S 4 3 ls st (some (.inr e, h)) = some (.inr e, h)) ∧
  (∀ (l0 l1 l2 l3 l4 : Option Value) (s0 : Int32) (h : sx_H), sx_Ev S 4 6 [l0, l1, l2, l3, l4] [.int s0] h = sx_Ev S 4 8 [l0, l1, l2, l3, some (.int s0)] [] h) ∧
  (∀ (l0 l1 l2 l3 : Option Value) (x : Int32) (h : sx_H), sx_Ev S 4 8 [l0, l1, l2, l3, some (.int x)] [] h = sx_Ev S 4 10 [l0, l1, l2, l3, some (.int x)] [.int x] h) ∧
  (∀ (l0 l1 l2 l3 l4 : Option Value) (s0 : Int32) (h : sx_H), sx_Ev S 4 10 [l0, l1, l2, l3, l4] [.int s0] h = sx_Ev S 4 11 [l0, l1, l2, l3, l4] [.int (sz (-1)), .int s0] h) ∧
  (∀ (l0 l1 l2 l3 l4 : Option Value) (s0 : Int32) (s1 : Int32) (h : sx_H), sx_Ev S 4 11 [l0, l1, l2, l3, l4] [.int s0, .int s1] h = if s1 = s0 then sx_Ev S 4 41 [l0, l1, l2, l3, l4] [] h else sx_Ev S 4 14 [l0, l1, l2, l3, l4] [] h) ∧
  (∀ (l0 l1 l2 l3 : Option Value) (x : Int32) (h : sx_H), sx_Ev S 4 14 [l0, l1, l2, l3, some (.int x)] [] h = sx_Ev S 4 16 [l0, l1, l2, l3, some (.int x)] [.int x] h) ∧
  (∀ (l1 l2 l3 l4 : Option Value) (s0 : Int32) (x : Nat) (h : sx_H), sx_Ev S 4 16 [some (.ref x), l1, l2, l3, l4] [.int s0] h = sx_Ev S 4 17 [some (.ref x), l1, l2, l3, l4] [.ref x, .int s0] h) ∧
  (∀ (l0 l2 l3 l4 : Option Value) (s0 : Nat) (s1 : Int32) (x : Int32) (h : sx_H), sx_Ev S 4 17 [l0, some (.int x), l2, l3, l4] [.ref s0, .int s1] h = sx_Ev S 4 18 [l0, some (.int x), l2, l3, l4] [.int x, .ref s0, .int s1] h) ∧
  (∀ (l0 l1 l2 l4 : Option Value) (s0 : Int32) (s1 : Nat) (s2 : Int32) (x : Int32) (h : sx_H), sx_Ev S 4 18 [l0, l1, l2, some (.int x), l4] [.int s0, .ref s1, .int s2] h = sx_Ev S 4 19 [l0, l1, l2, some (.int x), l4] [.int x, .int s0, .ref s1, .int s2] h) ∧
  (∀ (l0 l1 l2 l3 l4 : Option Value) (s0 : Int32) (s1 : Int32) (s2 : Nat) (s3 : Int32) (h : sx_H), sx_Ev S 4 19 [l0, l1, l2, l3, l4] [.int s0, .int s1, .ref s2, .int s3] h = if s0 = 0 then sx_Ev S 4 28 [l0, l1, l2, l3, l4] [.int s1, .ref s2, .int s3] h else sx_Ev S 4 22 [l0, l1, l2, l3, l4] [.int s1, .ref s2, .int s3] h) ∧
  (∀ (l0 l1 l3 l4 : Option Value) (s0 : Int32) (s1 : Nat) (s2 : Int32) (x : Int32) (h : sx_H), sx_Ev S 4 22 [l0, l1, some (.int x), l3, l4] [.int s0, .ref s1, .int s2] h = sx_Ev S 4 23 [l0, l1, some (.int x), l3, l4] [.int x, .int s0, .ref s1, .int s2] h) ∧
  (∀ (l0 l1 l2 l3 l4 : Option Value) (s0 : Int32) (s1 : Int32) (s2 : Nat) (s3 : Int32) (h : sx_H), sx_Ev S 4 23 [l0, l1, l2, l3, l4] [.int s0, .int s1, .ref s2, .int s3] h = sx_Ev S 4 24 [l0, l1, l2, l3, l4] [.int (sz (1)), .int s0, .int s1, .ref s2, .int s3] h) ∧
  (∀ (l0 l1 l2 l3 l4 : Option Value) (s0 : Int32) (s1 : Int32) (s2 : Int32) (s3 : Nat) (s4 : Int32) (h : sx_H), sx_Ev S 4 24 [l0, l1, l2, l3, l4] [.int s0, .int s1, .int s2, .ref s3, .int s4] h = sx_Ev S 4 25 [l0, l1, l2, l3, l4] [.int (s1 + s0), .int s2, .ref s3, .int s4] h) ∧
  (∀ (l0 l1 l2 l3 l4 : Option Value) (s0 : Int32) (s1 : Int32) (s2 : Nat) (s3 : Int32) (h : sx_H), sx_Ev S 4 25 [l0, l1, l2, l3, l4] [.int s0, .int s1, .ref s2, .int s3] h = sx_Ev S 4 31 [l0, l1, l2, l3, l4] [.int s0, .int s1, .ref s2, .int s3] h) ∧
  (∀ (l0 l1 l3 l4 : Option Value) (s0 : Int32) (s1 : Nat) (s2 : Int32) (x : Int32) (h : sx_H), sx_Ev S 4 28 [l0, l1, some (.int x), l3, l4] [.int s0, .ref s1, .int s2] h = sx_Ev S 4 29 [l0, l1, some (.int x), l3, l4] [.int x, .int s0, .ref s1, .int s2] h) ∧
  (∀ (l0 l1 l2 l3 l4 : Option Value) (s0 : Int32) (s1 : Int32) (s2 : Nat) (s3 : Int32) (h : sx_H), sx_Ev S 4 29 [l0, l1, l2, l3, l4] [.int s0, .int s1, .ref s2, .int s3] h = sx_Ev S 4 30 [l0, l1, l2, l3, l4] [.int (sz (1)), .int s0, .int s1, .ref s2, .int s3] h) ∧
  (∀ (l0 l1 l2 l3 l4 : Option Value) (s0 : Int32) (s1 : Int32) (s2 : Int32) (s3 : Nat) (s4 : Int32) (h : sx_H), sx_Ev S 4 30 [l0, l1, l2, l3, l4] [.int s0, .int s1, .int s2, .ref s3, .int s4] h = sx_Ev S 4 31 [l0, l1, l2, l3, l4] [.int (s1 - s0), .int s2, .ref s3, .int s4] h) ∧
  (∀ (l0 l1 l2 l3 l4 : Option Value) (s0 : Int32) (s1 : Int32) (s2 : Nat) (s3 : Int32) (h : sx_H), sx_klass h s2 = some 0 → sx_Ev S 4 31 [l0, l1, l2, l3, l4] [.int s0, .int s1, .ref s2, .int s3] h = sx_back S 4 31 [l0, l1, l2, l3, l4] [.int s3] (sx_Cl S 0 [.ref s2, .int s1, .int s0] h)) ∧
  (∀ (ls : sx_L) (st : List Value) (v : Value) (h : sx_H), sx_back S 4 31 ls st (some (.inl (some v), h)) = sx_Ev S 4 34 ls (v :: st) h) ∧
  (∀ (ls : sx_L) (st : List Value) (e : Nat) (h : sx_H), sx_back S 4 31 ls st (some (.inr e, h)) = some (.inr e, h)) ∧
  (∀ (l0 l1 l2 l3 l4 : Option Value) (s0 : Int32) (s1 : Int32) (h : sx_H), sx_Ev S 4 34 [l0, l1, l2, l3, l4] [.int s0, .int s1] h = if s1 = s0 then sx_Ev S 4 41 [l0, l1, l2, l3, l4] [] h else sx_Ev S 4 37 [l0, l1, l2, l3, l4] [] h) ∧
  (∀ (l0 l1 l2 l3 l4 : Option Value) (h : sx_H), sx_Ev S 4 37 [l0, l1, l2, l3, l4] [] h = sx_Ev S 4 38 [l0, l1, l2, l3, l4] [.int (sz (1))] h) ∧
  (∀ (l0 l1 l2 l3 l4 : Option Value) (s0 : Int32) (h : sx_H), sx_Ev S 4 38 [l0, l1, l2, l3, l4] [.int s0] h = sx_Ev S 4 42 [l0, l1, l2, l3, l4] [.int s0] h) ∧
  (∀ (l0 l1 l2 l3 l4 : Option Value) (h : sx_H), sx_Ev S 4 41 [l0, l1, l2, l3, l4] [] h = sx_Ev S 4 42 [l0, l1, l2, l3, l4] [.int (sz (0))] h) ∧
  (∀ (l0 l1 l2 l3 l4 : Option Value) (s0 : Int32) (h : sx_H), narrow .boolean (.int s0) = .int s0 → sx_Ev S 4 42 [l0, l1, l2, l3, l4] [.int s0] h = some (.inl (some (.int s0)), h)) := ⟨fun _ _ _ _ _ _ => sx_e_nx rfl rfl,
  fun _ _ _ _ _ _ _ => sx_e_nx rfl rfl,
  fun _ _ _ _ _ _ _ _ => sx_e_nx rfl rfl,
  fun _ _ _ _ _ _ _ _ _ hv => sx_e_virt rfl rfl ⟨Nat.le_of_ble_eq_true rfl, Nat.le_of_ble_eq_true rfl, rfl⟩ rfl rfl rfl hv,
  fun _ _ _ _ => rfl,
  fun _ _ _ _ => rfl,
  fun _ _ _ _ _ _ _ => sx_e_nx rfl rfl,
  fun _ _ _ _ _ _ => sx_e_nx rfl rfl,
  fun _ _ _ _ _ _ _ => sx_e_nx rfl rfl,
  fun _ _ _ _ _ _ _ _ => sx_e_ieq rfl (by decide) rfl,
  fun _ _ _ _ _ _ => sx_e_nx rfl rfl,
  fun _ _ _ _ _ _ _ => sx_e_nx rfl rfl,
  fun _ _ _ _ _ _ _ _ => sx_e_nx rfl rfl,
  fun _ _ _ _ _ _ _ _ _ => sx_e_nx rfl rfl,
  fun _ _ _ _ _ _ _ _ _ _ => sx_e_eq rfl (by decide) rfl,
  fun _ _ _ _ _ _ _ _ _ => sx_e_nx rfl rfl,
  fun _ _ _ _ _ _ _ _ _ _ => sx_e_nx rfl rfl,
  fun _ _ _ _ _ _ _ _ _ _ _ => sx_e_nx rfl rfl,
  fun _ _ _ _ _ _ _ _ _ _ => sx_e_goto rfl (by decide),
  fun _ _ _ _ _ _ _ _ _ => sx_e_nx rfl rfl,
  fun _ _ _ _ _ _ _ _ _ _ => sx_e_nx rfl rfl,
  fun _ _ _ _ _ _ _ _ _ _ _ => sx_e_nx rfl rfl,
  fun _ _ _ _ _ _ _ _ _ _ hv => sx_e_virt rfl rfl ⟨Nat.le_of_ble_eq_true rfl, Nat.le_of_ble_eq_true rfl, rfl⟩ rfl rfl rfl hv,
  fun _ _ _ _ => rfl,
  fun _ _ _ _ => rfl,
  fun _ _ _ _ _ _ _ _ => sx_e_ieq rfl (by decide) rfl,
  fun _ _ _ _ _ _ => sx_e_nx rfl rfl,
  fun _ _ _ _ _ _ _ => sx_e_goto rfl (by decide),
  fun _ _ _ _ _ _ => sx_e_nx rfl rfl,
  fun _ _ _ _ _ _ _ hv => sx_e_ret rfl rfl hv⟩
/-- 5: X0_countRuns (LBeadslant$Cloth;I)I -/
theorem c5_q (S : List Int32) : ∀ (a0 : Nat) (a1 : Int32) (h : sx_H), sx_Cl S 5 [.ref a0, .int a1] h = sx_Ev S 5 0 [some (.ref a0), some (.int a1), none, none] [] h := fun _ _ _ => rfl
theorem h5_4 (S : List Int32) : (∀ (l0 l1 l2 : Option Value) (x : Int32) (h : sx_H), sx_Ev S 5 4 [l0, l1, l2, some (.int x)] [] h = sx_Ev S 5 5 [l0, l1, l2, some (.int x)] [.int x] h) := fun _ _ _ _ _ => sx_e_nx rfl rfl
theorem q5 (S : List Int32) : (∀ (l0 l1 l2 l3 : Option Value) (h : sx_H), sx_Ev S 5 0 [l0, l1, l2, l3] [] h = sx_Ev S 5 1 [l0, l1, l2, l3] [.int (sz (0))] h) ∧
  (∀ (l0 l1 l2 l3 : Option Value) (s0 : Int32) (h : sx_H), sx_Ev S 5 1 [l0, l1, l2, l3] [.int s0] h = sx_Ev S 5 2 [l0, l1, some (.int s0), l3] [] h) ∧
  (∀ (l0 l1 l2 l3 : Option Value) (h : sx_H), sx_Ev S 5 2 [l0, l1, l2, l3] [] h = sx_Ev S 5 3 [l0, l1, l2, l3] [.int (sz (0))] h) ∧
  (∀ (l0 l1 l2 l3 : Option Value) (s0 : Int32) (h : sx_H), sx_Ev S 5 3 [l0, l1, l2, l3] [.int s0] h = sx_Ev S 5 4 [l0, l1, l2, some (.int s0)] [] h) ∧
  (∀ (l1 l2 l3 : Option Value) (s0 : Int32) (x : Nat) (h : sx_H), sx_Ev S 5 5 [some (.ref x), l1, l2, l3] [.int s0] h = sx_Ev S 5 6 [some (.ref x), l1, l2, l3] [.ref x, .int s0] h) ∧
  (∀ (l0 l1 l2 l3 : Option Value) (s0 : Nat) (s1 : Int32) (h : sx_H), sx_Ev S 5 6 [l0, l1, l2, l3] [.ref s0, .int s1] h = (sx_fld h s0 0 2).bind fun v => sx_Ev S 5 9 [l0, l1, l2, l3] [v, .int s1] h) ∧
  (∀ (l0 l1 l2 l3 : Option Value) (s0 : Int32) (s1 : Int32) (h : sx_H), sx_Ev S 5 9 [l0, l1, l2, l3] [.int s0, .int s1] h = if s1 < s0 then sx_Ev S 5 12 [l0, l1, l2, l3] [] h else sx_Ev S 5 31 [l0, l1, l2, l3] [] h) ∧
  (∀ (l1 l2 l3 : Option Value) (x : Nat) (h : sx_H), sx_Ev S 5 12 [some (.ref x), l1, l2, l3] [] h = sx_Ev S 5 13 [some (.ref x), l1, l2, l3] [.ref x] h) ∧
  (∀ (l0 l2 l3 : Option Value) (s0 : Nat) (x : Int32) (h : sx_H), sx_Ev S 5 13 [l0, some (.int x), l2, l3] [.ref s0] h = sx_Ev S 5 14 [l0, some (.int x), l2, l3] [.int x, .ref s0] h) ∧
  (∀ (l0 l1 l2 : Option Value) (s0 : Int32) (s1 : Nat) (x : Int32) (h : sx_H), sx_Ev S 5 14 [l0, l1, l2, some (.int x)] [.int s0, .ref s1] h = sx_Ev S 5 15 [l0, l1, l2, some (.int x)] [.int x, .int s0, .ref s1] h) ∧
  (∀ (l0 l1 l2 l3 : Option Value) (s0 : Int32) (s1 : Int32) (s2 : Nat) (h : sx_H), sx_Ev S 5 15 [l0, l1, l2, l3] [.int s0, .int s1, .ref s2] h = sx_Ev S 5 16 [l0, l1, l2, l3] [.int (sz (0)), .int s0, .int s1, .ref s2] h) ∧
  (∀ (l0 l1 l2 l3 : Option Value) (s0 : Int32) (s1 : Int32) (s2 : Int32) (s3 : Nat) (h : sx_H), sx_Ev S 5 16 [l0, l1, l2, l3] [.int s0, .int s1, .int s2, .ref s3] h = sx_back S 5 16 [l0, l1, l2, l3] [] (sx_Cl S 4 [.ref s3, .int s2, .int s1, .int s0] h)) ∧
  (∀ (ls : sx_L) (st : List Value) (v : Value) (h : sx_H), sx_back S 5 16 ls st (some (.inl (some v), h)) = sx_Ev S 5 19 ls (v :: st) h) ∧
  (∀ (ls : sx_L) (st : List Value) (e : Nat) (h : sx_H), sx_back S 5 16 ls st (some (.inr e, h)) = some (.inr e, h)) ∧
  (∀ (l0 l1 l2 l3 : Option Value) (s0 : Int32) (h : sx_H), sx_Ev S 5 19 [l0, l1, l2, l3] [.int s0] h = if s0 = 0 then sx_Ev S 5 25 [l0, l1, l2, l3] [] h else sx_Ev S 5 22 [l0, l1, l2, l3] [] h) ∧
  (∀ (l0 l1 l3 : Option Value) (x : Int32) (h : sx_H), sx_Ev S 5 22 [l0, l1, some (.int x), l3] [] h = sx_Ev S 5 25 [l0, l1, some (.int (x + sz (1))), l3] [] h) ∧
  (∀ (l0 l1 l2 : Option Value) (x : Int32) (h : sx_H), sx_Ev S 5 25 [l0, l1, l2, some (.int x)] [] h = sx_Ev S 5 28 [l0, l1, l2, some (.int (x + sz (1)))] [] h) ∧
  (∀ (l0 l1 l2 l3 : Option Value) (h : sx_H), sx_Ev S 5 28 [l0, l1, l2, l3] [] h = sx_Ev S 5 4 [l0, l1, l2, l3] [] h) ∧
  (∀ (l0 l1 l3 : Option Value) (x : Int32) (h : sx_H), sx_Ev S 5 31 [l0, l1, some (.int x), l3] [] h = sx_Ev S 5 32 [l0, l1, some (.int x), l3] [.int x] h) ∧
  (∀ (l0 l1 l2 l3 : Option Value) (s0 : Int32) (h : sx_H), sx_Ev S 5 32 [l0, l1, l2, l3] [.int s0] h = some (.inl (some (.int s0)), h)) := ⟨fun _ _ _ _ _ => sx_e_nx rfl rfl,
  fun _ _ _ _ _ _ => sx_e_nx rfl rfl,
  fun _ _ _ _ _ => sx_e_nx rfl rfl,
  fun _ _ _ _ _ _ => sx_e_nx rfl rfl,
  fun _ _ _ _ _ _ => sx_e_nx rfl rfl,
  fun _ _ _ _ _ _ _ => sx_e_getf rfl rfl (by decide) rfl,
  fun _ _ _ _ _ _ _ => sx_e_ige rfl (by decide) rfl,
  fun _ _ _ _ _ => sx_e_nx rfl rfl,
  fun _ _ _ _ _ _ => sx_e_nx rfl rfl,
  fun _ _ _ _ _ _ _ => sx_e_nx rfl rfl,
  fun _ _ _ _ _ _ _ _ => sx_e_nx rfl rfl,
  fun _ _ _ _ _ _ _ _ _ => sx_e_ca rfl rfl,
  fun _ _ _ _ => rfl,
  fun _ _ _ _ => rfl,
  fun _ _ _ _ _ _ => sx_e_eq rfl (by decide) rfl,
  fun _ _ _ _ _ => sx_e_nx rfl rfl,
  fun _ _ _ _ _ => sx_e_nx rfl rfl,
  fun _ _ _ _ _ => sx_e_goto rfl (by decide),
  fun _ _ _ _ _ => sx_e_nx rfl rfl,
  fun _ _ _ _ _ _ => sx_e_ret rfl rfl rfl⟩
/-- 6: X0_findRun (LBeadslant$Cloth;IIZ)I -/
theorem c6_q (S : List Int32) : ∀ (a0 : Nat) (a1 : Int32) (a2 : Int32) (a3 : Int32) (h : sx_H), sx_Cl S 6 [.ref a0, .int a1, .int a2, .int a3] h = sx_Ev S 6 0 [some (.ref a0), some (.int a1), some (.int a2), some (.int a3), none, none, none] [] h := fun _ _ _ _ _ => rfl
theorem h6_6 (S : List Int32) : (∀ (l0 l1 l2 l3 l4 l6 : Option Value) (x : Int32) (h : sx_H), sx_Ev S 6 6 [l0, l1, l2, l3, l4, some (.int x), l6] [] h = sx_Ev S 6 8 [l0, l1, l2, l3, l4, some (.int x), l6] [.int x] h) := fun _ _ _ _ _ _ _ _ => sx_e_nx rfl rfl
theorem q6 (S : List Int32) : (∀ (l0 l1 l2 l3 l4 l5 l6 : Option Value) (h : sx_H), sx_Ev S 6 0 [l0, l1, l2, l3, l4, l5, l6] [] h = sx_Ev S 6 1 [l0, l1, l2, l3, l4, l5, l6] [.int (sz (0))] h) ∧
  (∀ (l0 l1 l2 l3 l4 l5 l6 : Option Value) (s0 : Int32) (h : sx_H), sx_Ev S 6 1 [l0, l1, l2, l3, l4, l5, l6] [.int s0] h = sx_Ev S 6 3 [l0, l1, l2, l3, some (.int s0), l5, l6] [] h) ∧
  (∀ (l0 l1 l2 l3 l4 l5 l6 : Option Value) (h : sx_H), sx_Ev S 6 3 [l0, l1, l2, l3, l4, l5, l6] [] h = sx_Ev S 6 4 [l0, l1, l2, l3, l4, l5, l6] [.int (sz (0))] h) ∧
  (∀ (l0 l1 l2 l3 l4 l5 l6 : Option Value) (s0 : Int32) (h : sx_H), sx_Ev S 6 4 [l0, l1, l2, l3, l4, l5, l6] [.int s0] h = sx_Ev S 6 6 [l0, l1, l2, l3, l4, some (.int s0), l6] [] h) ∧
  (∀ (l1 l2 l3 l4 l5 l6 : Option Value) (s0 : Int32) (x : Nat) (h : sx_H), sx_Ev S 6 8 [some (.ref x), l1, l2, l3, l4, l5, l6] [.int s0] h = sx_Ev S 6 9 [some (.ref x), l1, l2, l3, l4, l5, l6] [.ref x, .int s0] h) ∧
  (∀ (l0 l1 l2 l3 l4 l5 l6 : Option Value) (s0 : Nat) (s1 : Int32) (h : sx_H), sx_Ev S 6 9 [l0, l1, l2, l3, l4, l5, l6] [.ref s0, .int s1] h = (sx_fld h s0 0 2).bind fun v => sx_Ev S 6 12 [l0, l1, l2, l3, l4, l5, l6] [v, .int s1] h) ∧
  (∀ (l0 l1 l2 l3 l4 l5 l6 : Option Value) (s0 : Int32) (s1 : Int32) (h : sx_H), sx_Ev S 6 12 [l0, l1, l2, l3, l4, l5, l6] [.int s0, .int s1] h = if s1 < s0 then sx_Ev S 6 15 [l0, l1, l2, l3, l4, l5, l6] [] h else sx_Ev S 6 64 [l0, l1, l2, l3, l4, l5, l6] [] h) ∧
  (∀ (l0 l1 l2 l4 l5 l6 : Option Value) (x : Int32) (h : sx_H), sx_Ev S 6 15 [l0, l1, l2, some (.int x), l4, l5, l6] [] h = sx_Ev S 6 16 [l0, l1, l2, some (.int x), l4, l5, l6] [.int x] h) ∧
  (∀ (l0 l1 l2 l3 l4 l5 l6 : Option Value) (s0 : Int32) (h : sx_H), sx_Ev S 6 16 [l0, l1, l2, l3, l4, l5, l6] [.int s0] h = if s0 = 0 then sx_Ev S 6 31 [l0, l1, l2, l3, l4, l5, l6] [] h else sx_Ev S 6 19 [l0, l1, l2, l3, l4, l5, l6] [] h) ∧
  (∀ (l1 l2 l3 l4 l5 l6 : Option Value) (x : Nat) (h : sx_H), sx_Ev S 6 19 [some (.ref x), l1, l2, l3, l4, l5, l6] [] h = sx_Ev S 6 20 [some (.ref x), l1, l2, l3, l4, l5, l6] [.ref x] h) ∧
  (∀ (l0 l1 l2 l3 l4 l5 l6 : Option Value) (s0 : Nat) (h : sx_H), sx_Ev S 6 20 [l0, l1, l2, l3, l4, l5, l6] [.ref s0] h = (sx_fld h s0 0 2).bind fun v => sx_Ev S 6 23 [l0, l1, l2, l3, l4, l5, l6] [v] h) ∧
  (∀ (l0 l1 l2 l3 l4 l5 l6 : Option Value) (s0 : Int32) (h : sx_H), sx_Ev S 6 23 [l0, l1, l2, l3, l4, l5, l6] [.int s0] h = sx_Ev S 6 24 [l0, l1, l2, l3, l4, l5, l6] [.int (sz (1)), .int s0] h) ∧
  (∀ (l0 l1 l2 l3 l4 l5 l6 : Option Value) (s0 : Int32) (s1 : Int32) (h : sx_H), sx_Ev S 6 24 [l0, l1, l2, l3, l4, l5, l6] [.int s0, .int s1] h = sx_Ev S 6 25 [l0, l1, l2, l3, l4, l5, l6] [.int (s1 - s0)] h) ∧
  (∀ (l0 l1 l2 l3 l4 l6 : Option Value) (s0 : Int32) (x : Int32) (h : sx_H), sx_Ev S 6 25 [l0, l1, l2, l3, l4, some (.int x), l6] [.int s0] h = sx_Ev S 6 27 [l0, l1, l2, l3, l4, some (.int x), l6] [.int x, .int s0] h) ∧
  (∀ (l0 l1 l2 l3 l4 l5 l6 : Option Value) (s0 : Int32) (s1 : Int32) (h : sx_H), sx_Ev S 6 27 [l0, l1, l2, l3, l4, l5, l6] [.int s0, .int s1] h = sx_Ev S 6 28 [l0, l1, l2, l3, l4, l5, l6] [.int (s1 - s0)] h) ∧
  (∀ (l0 l1 l2 l3 l4 l5 l6 : Option Value) (s0 : Int32) (h : sx_H), sx_Ev S 6 28 [l0, l1, l2, l3, l4, l5, l6] [.int s0] h = sx_Ev S 6 33 [l0, l1, l2, l3, l4, l5, l6] [.int s0] h) ∧
  (∀ (l0 l1 l2 l3 l4 l6 : Option Value) (x : Int32) (h : sx_H), sx_Ev S 6 31 [l0, l1, l2, l3, l4, some (.int x), l6] [] h = sx_Ev S 6 33 [l0, l1, l2, l3, l4, some (.int x), l6] [.int x] h) ∧
  (∀ (l0 l1 l2 l3 l4 l5 l6 : Option Value) (s0 : Int32) (h : sx_H), sx_Ev S 6 33 [l0, l1, l2, l3, l4, l5, l6] [.int s0] h = sx_Ev S 6 35 [l0, l1, l2, l3, l4, l5, some (.int s0)] [] h) ∧
  (∀ (l1 l2 l3 l4 l5 l6 : Option Value) (x : Nat) (h : sx_H), sx_Ev S 6 35 [some (.ref x), l1, l2, l3, l4, l5, l6] [] h = sx_Ev S 6 36 [some (.ref x), l1, l2, l3, l4, l5, l6] [.ref x] h) ∧
  (∀ (l0 l2 l3 l4 l5 l6 : Option Value) (s0 : Nat) (x : Int32) (h : sx_H), sx_Ev S 6 36 [l0, some (.int x), l2, l3, l4, l5, l6] [.ref s0] h = sx_Ev S 6 37 [l0, some (.int x), l2, l3, l4, l5, l6] [.int x, .ref s0] h) ∧
  (∀ (l0 l1 l2 l3 l4 l5 : Option Value) (s0 : Int32) (s1 : Nat) (x : Int32) (h : sx_H), sx_Ev S 6 37 [l0, l1, l2, l3, l4, l5, some (.int x)] [.int s0, .ref s1] h = sx_Ev S 6 39 [l0, l1, l2, l3, l4, l5, some (.int x)] [.int x, .int s0, .ref s1] h) ∧
  (∀ (l0 l1 l2 l4 l5 l6 : Option Value) (s0 : Int32) (s1 : Int32) (s2 : Nat) (x : Int32) (h : sx_H), sx_Ev S 6 39 [l0, l1, l2, some (.int x), l4, l5, l6] [.int s0, .int s1, .ref s2] h = sx_Ev S 6 40 [l0, l1, l2, some (.int x), l4, l5, l6] [.int x, .int s0, .int s1, .ref s2] h) ∧
  (∀ (l0 l1 l2 l3 l4 l5 l6 : Option Value) (s0 : Int32) (s1 : Int32) (s2 : Int32) (s3 : Nat) (h : sx_H), sx_Ev S 6 40 [l0, l1, l2, l3, l4, l5, l6] [.int s0, .int s1, .int s2, .ref s3] h = sx_back S 6 40 [l0, l1, l2, l3, l4, l5, l6] [] (sx_Cl S 4 [.ref s3, .int s2, .int s1, .int s0] h)) ∧
  (∀ (ls : sx_L) (st : List Value) (v : Value) (h : sx_H), sx_back S 6 40 ls st (some (.inl (some v), h)) = sx_Ev S 6 43 ls (v :: st) h) ∧
  (∀ (ls : sx_L) (st : List Value) (e : Nat) (h : sx_H), sx_back S 6 40 ls st (some (.inr e, h)) = some (.inr e, h)) ∧
  (∀ (l0 l1 l2 l3 l4 l5 l6 : Option Value) (s0 : Int32) (h : sx_H), sx_Ev S 6 43 [l0, l1, l2, l3, l4, l5, l6] [.int s0] h = if s0 = 0 then sx_Ev S 6 58 [l0, l1, l2, l3, l4, l5, l6] [] h else sx_Ev S 6 46 [l0, l1, l2, l3, l4, l5, l6] [] h) ∧
  (∀ (l0 l1 l2 l3 l5 l6 : Option Value) (x : Int32) (h : sx_H), sx_Ev S 6 46 [l0, l1, l2, l3, some (.int x), l5, l6] [] h = sx_Ev S 6 48 [l0, l1, l2, l3, some (.int x), l5, l6] [.int x] h) ∧
  (∀ (l0 l1 l3 l4 l5 l6 : Option Value) (s0 : Int32) (x : Int32) (h : sx_H), sx_Ev S 6 48 [l0, l1, some (.int x), l3, l4, l5, l6] [.int s0] h = sx_Ev S 6 49 [l0, l1, some (.int x), l3, l4, l5, l6] [.int x, .int s0] h) ∧
  (∀ (l0 l1 l2 l3 l4 l5 l6 : Option Value) (s0 : Int32) (s1 : Int32) (h : sx_H), sx_Ev S 6 49 [l0, l1, l2, l3, l4, l5, l6] [.int s0, .int s1] h = if s1 = s0 then sx_Ev S 6 52 [l0, l1, l2, l3, l4, l5, l6] [] h else sx_Ev S 6 55 [l0, l1, l2, l3, l4, l5, l6] [] h) ∧
  (∀ (l0 l1 l2 l3 l4 l5 : Option Value) (x : Int32) (h : sx_H), sx_Ev S 6 52 [l0, l1, l2, l3, l4, l5, some (.int x)] [] h = sx_Ev S 6 54 [l0, l1, l2, l3, l4, l5, some (.int x)] [.int x] h) ∧
  (∀ (l0 l1 l2 l3 l4 l5 l6 : Option Value) (s0 : Int32) (h : sx_H), sx_Ev S 6 54 [l0, l1, l2, l3, l4, l5, l6] [.int s0] h = some (.inl (some (.int s0)), h)) ∧
  (∀ (l0 l1 l2 l3 l5 l6 : Option Value) (x : Int32) (h : sx_H), sx_Ev S 6 55 [l0, l1, l2, l3, some (.int x), l5, l6] [] h = sx_Ev S 6 58 [l0, l1, l2, l3, some (.int (x + sz (1))), l5, l6] [] h) ∧
  (∀ (l0 l1 l2 l3 l4 l6 : Option Value) (x : Int32) (h : sx_H), sx_Ev S 6 58 [l0, l1, l2, l3, l4, some (.int x), l6] [] h = sx_Ev S 6 61 [l0, l1, l2, l3, l4, some (.int (x + sz (1))), l6] [] h) ∧
  (∀ (l0 l1 l2 l3 l4 l5 l6 : Option Value) (h : sx_H), sx_Ev S 6 61 [l0, l1, l2, l3, l4, l5, l6] [] h = sx_Ev S 6 6 [l0, l1, l2, l3, l4, l5, l6] [] h) ∧
  (∀ (l0 l1 l2 l3 l4 l5 l6 : Option Value) (h : sx_H), sx_Ev S 6 64 [l0, l1, l2, l3, l4, l5, l6] [] h = sx_Ev S 6 65 [l0, l1, l2, l3, l4, l5, l6] [.int (sz (-1))] h) ∧
  (∀ (l0 l1 l2 l3 l4 l5 l6 : Option Value) (s0 : Int32) (h : sx_H), sx_Ev S 6 65 [l0, l1, l2, l3, l4, l5, l6] [.int s0] h = some (.inl (some (.int s0)), h)) := ⟨fun _ _ _ _ _ _ _ _ => sx_e_nx rfl rfl,
  fun _ _ _ _ _ _ _ _ _ => sx_e_nx rfl rfl,
  fun _ _ _ _ _ _ _ _ => sx_e_nx rfl rfl,
  fun _ _ _ _ _ _ _ _ _ => sx_e_nx rfl rfl,
  fun _ _ _ _ _ _ _ _ _ => sx_e_nx rfl rfl,
  fun _ _ _ _ _ _ _ _ _ _ => sx_e_getf rfl rfl (by decide) rfl,
  fun _ _ _ _ _ _ _ _ _ _ => sx_e_ige rfl (by decide) rfl,
  fun _ _ _ _ _ _ _ _ => sx_e_nx rfl rfl,
  fun _ _ _ _ _ _ _ _ _ => sx_e_eq rfl (by decide) rfl,
  fun _ _ _ _ _ _ _ _ => sx_e_nx rfl rfl,
  fun _ _ _ _ _ _ _ _ _ => sx_e_getf rfl rfl (by decide) rfl,
  fun _ _ _ _ _ _ _ _ _ => sx_e_nx rfl rfl,
  fun _ _ _ _ _ _ _ _ _ _ => sx_e_nx rfl rfl,
  fun _ _ _ _ _ _ _ _ _ => sx_e_nx rfl rfl,
  fun _ _ _ _ _ _ _ _ _ _ => sx_e_nx rfl rfl,
  fun _ _ _ _ _ _ _ _ _ => sx_e_goto rfl (by decide),
  fun _ _ _ _ _ _ _ _ => sx_e_nx rfl rfl,
  fun _ _ _ _ _ _ _ _ _ => sx_e_nx rfl rfl,
  fun _ _ _ _ _ _ _ _ => sx_e_nx rfl rfl,
  fun _ _ _ _ _ _ _ _ _ => sx_e_nx rfl rfl,
  fun _ _ _ _ _ _ _ _ _ _ => sx_e_nx rfl rfl,
  fun _ _ _ _ _ _ _ _ _ _ _ => sx_e_nx rfl rfl,
  fun _ _ _ _ _ _ _ _ _ _ _ _ => sx_e_ca rfl rfl,
  fun _ _ _ _ => rfl,
  fun _ _ _ _ => rfl,
  fun _ _ _ _ _ _ _ _ _ => sx_e_eq rfl (by decide) rfl,
  fun _ _ _ _ _ _ _ _ => sx_e_nx rfl rfl,
  fun _ _ _ _ _ _ _ _ _ => sx_e_nx rfl rfl,
  fun _ _ _ _ _ _ _ _ _ _ => sx_e_ine rfl (by decide) rfl,
  fun _ _ _ _ _ _ _ _ => sx_e_nx rfl rfl,
  fun _ _ _ _ _ _ _ _ _ => sx_e_ret rfl rfl rfl,
  fun _ _ _ _ _ _ _ _ => sx_e_nx rfl rfl,
  fun _ _ _ _ _ _ _ _ => sx_e_nx rfl rfl,
  fun _ _ _ _ _ _ _ _ => sx_e_goto rfl (by decide),
  fun _ _ _ _ _ _ _ _ => sx_e_nx rfl rfl,
  fun _ _ _ _ _ _ _ _ _ => sx_e_ret rfl rfl rfl⟩
/-- 7: X0_cellsFrom (LBeadslant$Cloth;IIZ)I -/
theorem c7_q (S : List Int32) : ∀ (a0 : Nat) (a1 : Int32) (a2 : Int32) (a3 : Int32) (h : sx_H), sx_Cl S 7 [.ref a0, .int a1, .int a2, .int a3] h = sx_Ev S 7 0 [some (.ref a0), some (.int a1), some (.int a2), some (.int a3), none, none] [] h := fun _ _ _ _ _ => rfl
theorem h7_11 (S : List Int32) : (∀ (l0 l1 l2 l3 l4 : Option Value) (x : Int32) (h : sx_H), sx_Ev S 7 11 [l0, l1, l2, l3, l4, some (.int x)] [] h = sx_Ev S 7 13 [l0, l1, l2, l3, l4, some (.int x)] [.int x] h) := fun _ _ _ _ _ _ _ => sx_e_nx rfl rfl
theorem q7 (S : List Int32) : (∀ (l1 l2 l3 l4 l5 : Option Value) (x : Nat) (h : sx_H), sx_Ev S 7 0 [some (.ref x), l1, l2, l3, l4, l5] [] h = sx_Ev S 7 1 [some (.ref x), l1, l2, l3, l4, l5] [.ref x] h) ∧
  (∀ (l0 l2 l3 l4 l5 : Option Value) (s0 : Nat) (x : Int32) (h : sx_H), sx_Ev S 7 1 [l0, some (.int x), l2, l3, l4, l5] [.ref s0] h = sx_Ev S 7 2 [l0, some (.int x), l2, l3, l4, l5] [.int x, .ref s0] h) ∧
  (∀ (l0 l1 l3 l4 l5 : Option Value) (s0 : Int32) (s1 : Nat) (x : Int32) (h : sx_H), sx_Ev S 7 2 [l0, l1, some (.int x), l3, l4, l5] [.int s0, .ref s1] h = sx_Ev S 7 3 [l0, l1, some (.int x), l3, l4, l5] [.int x, .int s0, .ref s1] h) ∧
  (∀ (l0 l1 l2 l3 l4 l5 : Option Value) (s0 : Int32) (s1 : Int32) (s2 : Nat) (h : sx_H), sx_klass h s2 = some 0 → sx_Ev S 7 3 [l0, l1, l2, l3, l4, l5] [.int s0, .int s1, .ref s2] h = sx_back S 7 3 [l0, l1, l2, l3, l4, l5] [] (sx_Cl S 0 [.ref s2, .int s1, .int s0] h)) ∧
  (∀ (ls : sx_L) (st : List Value) (v : Value) (h : sx_H), sx_back S 7 3 ls st (some (.inl (some v), h)) = sx_Ev S 7 6 ls (v :: st) h) ∧
  (∀ (ls : sx_L) (st : List Value) (e : Nat) (h : sx_H), sx_back S 7 3 ls st (some (.inr e, h)) = some (.inr e, h)) ∧
  (∀ (l0 l1 l2 l3 l4 l5 : Option Value) (s0 : Int32) (h : sx_H), sx_Ev S 7 6 [l0, l1, l2, l3, l4, l5] [.int s0] h = sx_Ev S 7 8 [l0, l1, l2, l3, some (.int s0), l5] [] h) ∧
  (∀ (l0 l1 l2 l3 l4 l5 : Option Value) (h : sx_H), sx_Ev S 7 8 [l0, l1, l2, l3, l4, l5] [] h = sx_Ev S 7 9 [l0, l1, l2, l3, l4, l5] [.int (sz (1))] h) ∧
  (∀ (l0 l1 l2 l3 l4 l5 : Option Value) (s0 : Int32) (h : sx_H), sx_Ev S 7 9 [l0, l1, l2, l3, l4, l5] [.int s0] h = sx_Ev S 7 11 [l0, l1, l2, l3, l4, some (.int s0)] [] h) ∧
  (∀ (l1 l2 l3 l4 l5 : Option Value) (s0 : Int32) (x : Nat) (h : sx_H), sx_Ev S 7 13 [some (.ref x), l1, l2, l3, l4, l5] [.int s0] h = sx_Ev S 7 14 [some (.ref x), l1, l2, l3, l4, l5] [.ref x, .int s0] h) ∧
  (∀ (l0 l1 l2 l3 l4 l5 : Option Value) (s0 : Nat) (s1 : Int32) (h : sx_H), sx_Ev S 7 14 [l0, l1, l2, l3, l4, l5] [.ref s0, .int s1] h = (sx_fld h s0 0 2).bind fun v => sx_Ev S 7 17 [l0, l1, l2, l3, l4, l5] [v, .int s1] h) ∧
  (∀ (l0 l1 l2 l3 l4 l5 : Option Value) (s0 : Int32) (s1 : Int32) (h : sx_H), sx_Ev S 7 17 [l0, l1, l2, l3, l4, l5] [.int s0, .int s1] h = if s1 < s0 then sx_Ev S 7 20 [l0, l1, l2, l3, l4, l5] [] h else sx_Ev S 7 54 [l0, l1, l2, l3, l4, l5] [] h) ∧
  (∀ (l1 l2 l3 l4 l5 : Option Value) (x : Nat) (h : sx_H), sx_Ev S 7 20 [some (.ref x), l1, l2, l3, l4, l5] [] h = sx_Ev S 7 21 [some (.ref x), l1, l2, l3, l4, l5] [.ref x] h) ∧
  (∀ (l0 l2 l3 l4 l5 : Option Value) (s0 : Nat) (x : Int32) (h : sx_H), sx_Ev S 7 21 [l0, some (.int x), l2, l3, l4, l5] [.ref s0] h = sx_Ev S 7 22 [l0, some (.int x), l2, l3, l4, l5] [.int x, .ref s0] h) ∧
  (∀ (l0 l1 l2 l4 l5 : Option Value) (s0 : Int32) (s1 : Nat) (x : Int32) (h : sx_H), sx_Ev S 7 22 [l0, l1, l2, some (.int x), l4, l5] [.int s0, .ref s1] h = sx_Ev S 7 23 [l0, l1, l2, some (.int x), l4, l5] [.int x, .int s0, .ref s1] h) ∧
  (∀ (l0 l1 l2 l3 l4 l5 : Option Value) (s0 : Int32) (s1 : Int32) (s2 : Nat) (h : sx_H), sx_Ev S 7 23 [l0, l1, l2, l3, l4, l5] [.int s0, .int s1, .ref s2] h = if s0 = 0 then sx_Ev S 7 33 [l0, l1, l2, l3, l4, l5] [.int s1, .ref s2] h else sx_Ev S 7 26 [l0, l1, l2, l3, l4, l5] [.int s1, .ref s2] h) ∧
  (∀ (l0 l1 l3 l4 l5 : Option Value) (s0 : Int32) (s1 : Nat) (x : Int32) (h : sx_H), sx_Ev S 7 26 [l0, l1, some (.int x), l3, l4, l5] [.int s0, .ref s1] h = sx_Ev S 7 27 [l0, l1, some (.int x), l3, l4, l5] [.int x, .int s0, .ref s1] h) ∧
  (∀ (l0 l1 l2 l3 l4 : Option Value) (s0 : Int32) (s1 : Int32) (s2 : Nat) (x : Int32) (h : sx_H), sx_Ev S 7 27 [l0, l1, l2, l3, l4, some (.int x)] [.int s0, .int s1, .ref s2] h = sx_Ev S 7 29 [l0, l1, l2, l3, l4, some (.int x)] [.int x, .int s0, .int s1, .ref s2] h) ∧
  (∀ (l0 l1 l2 l3 l4 l5 : Option Value) (s0 : Int32) (s1 : Int32) (s2 : Int32) (s3 : Nat) (h : sx_H), sx_Ev S 7 29 [l0, l1, l2, l3, l4, l5] [.int s0, .int s1, .int s2, .ref s3] h = sx_Ev S 7 30 [l0, l1, l2, l3, l4, l5] [.int (s1 - s0), .int s2, .ref s3] h) ∧
  (∀ (l0 l1 l2 l3 l4 l5 : Option Value) (s0 : Int32) (s1 : Int32) (s2 : Nat) (h : sx_H), sx_Ev S 7 30 [l0, l1, l2, l3, l4, l5] [.int s0, .int s1, .ref s2] h = sx_Ev S 7 37 [l0, l1, l2, l3, l4, l5] [.int s0, .int s1, .ref s2] h) ∧
  (∀ (l0 l1 l3 l4 l5 : Option Value) (s0 : Int32) (s1 : Nat) (x : Int32) (h : sx_H), sx_Ev S 7 33 [l0, l1, some (.int x), l3, l4, l5] [.int s0, .ref s1] h = sx_Ev S 7 34 [l0, l1, some (.int x), l3, l4, l5] [.int x, .int s0, .ref s1] h) ∧
  (∀ (l0 l1 l2 l3 l4 : Option Value) (s0 : Int32) (s1 : Int32) (s2 : Nat) (x : Int32) (h : sx_H), sx_Ev S 7 34 [l0, l1, l2, l3, l4, some (.int x)] [.int s0, .int s1, .ref s2] h = sx_Ev S 7 36 [l0, l1, l2, l3, l4, some (.int x)] [.int x, .int s0, .int s1, .ref s2] h) ∧
  (∀ (l0 l1 l2 l3 l4 l5 : Option Value) (s0 : Int32) (s1 : Int32) (s2 : Int32) (s3 : Nat) (h : sx_H), sx_Ev S 7 36 [l0, l1, l2, l3, l4, l5] [.int s0, .int s1, .int s2, .ref s3] h = sx_Ev S 7 37 [l0, l1, l2, l3, l4, l5] [.int (s1 + s0), .int s2, .ref s3] h) ∧
  (∀ (l0 l1 l2 l3 l4 l5 : Option Value) (s0 : Int32) (s1 : Int32) (s2 : Nat) (h : sx_H), sx_klass h s2 = some 0 → sx_Ev S 7 37 [l0, l1, l2, l3, l4, l5] [.int s0, .int s1, .ref s2] h = sx_back S 7 37 [l0, l1, l2, l3, l4, l5] [] (sx_Cl S 0 [.ref s2, .int s1, .int s0] h)) ∧
  (∀ (ls : sx_L) (st : List Value) (v : Value) (h : sx_H), sx_back S 7 37 ls st (some (.inl (some v), h)) = sx_Ev S 7 40 ls (v :: st) h) ∧
  (∀ (ls : sx_L) (st : List Value) (e : Nat) (h : sx_H), sx_back S 7 37 ls st (some (.inr e, h)) = some (.inr e, h)) ∧
  (∀ (l0 l1 l2 l3 l5 : Option Value) (s0 : Int32) (x : Int32) (h : sx_H), sx_Ev S 7 40 [l0, l1, l2, l3, some (.int x), l5] [.int s0] h = sx_Ev S 7 42 [l0, l1, l2, l3, some (.int x), l5] [.int x, .int s0] h) ∧
  (∀ (l0 l1 l2 l3 l4 l5 : Option Value) (s0 : Int32) (s1 : Int32) (h : sx_H), sx_Ev S 7 42 [l0, l1, l2, l3, l4, l5] [.int s0, .int s1] h = if s1 = s0 then sx_Ev S 7 48 [l0, l1, l2, l3, l4, l5] [] h else sx_Ev S 7 45 [l0, l1, l2, l3, l4, l5] [] h) ∧
  (∀ (l0 l1 l2 l3 l4 : Option Value) (x : Int32) (h : sx_H), sx_Ev S 7 45 [l0, l1, l2, l3, l4, some (.int x)] [] h = sx_Ev S 7 47 [l0, l1, l2, l3, l4, some (.int x)] [.int x] h) ∧
  (∀ (l0 l1 l2 l3 l4 l5 : Option Value) (s0 : Int32) (h : sx_H), sx_Ev S 7 47 [l0, l1, l2, l3, l4, l5] [.int s0] h = some (.inl (some (.int s0)), h)) ∧
  (∀ (l0 l1 l2 l3 l4 : Option Value) (x : Int32) (h : sx_H), sx_Ev S 7 48 [l0, l1, l2, l3, l4, some (.int x)] [] h = sx_Ev S 7 51 [l0, l1, l2, l3, l4, some (.int (x + sz (1)))] [] h) ∧
  (∀ (l0 l1 l2 l3 l4 l5 : Option Value) (h : sx_H), sx_Ev S 7 51 [l0, l1, l2, l3, l4, l5] [] h = sx_Ev S 7 11 [l0, l1, l2, l3, l4, l5] [] h) ∧
  (∀ (l1 l2 l3 l4 l5 : Option Value) (x : Nat) (h : sx_H), sx_Ev S 7 54 [some (.ref x), l1, l2, l3, l4, l5] [] h = sx_Ev S 7 55 [some (.ref x), l1, l2, l3, l4, l5] [.ref x] h) ∧
  (∀ (l0 l1 l2 l3 l4 l5 : Option Value) (s0 : Nat) (h : sx_H), sx_Ev S 7 55 [l0, l1, l2, l3, l4, l5] [.ref s0] h = (sx_fld h s0 0 2).bind fun v => sx_Ev S 7 58 [l0, l1, l2, l3, l4, l5] [v] h) ∧
  (∀ (l0 l1 l2 l3 l4 l5 : Option Value) (s0 : Int32) (h : sx_H), sx_Ev S 7 58 [l0, l1, l2, l3, l4, l5] [.int s0] h = some (.inl (some (.int s0)), h)) := ⟨fun _ _ _ _ _ _ _ => sx_e_nx rfl rfl,
  fun _ _ _ _ _ _ _ _ => sx_e_nx rfl rfl,
  fun _ _ _ _ _ _ _ _ _ => sx_e_nx rfl rfl,
  fun _ _ _ _ _ _ _ _ _ _ hv => sx_e_virt rfl rfl ⟨Nat.le_of_ble_eq_true rfl, Nat.le_of_ble_eq_true rfl, rfl⟩ rfl rfl rfl hv,
  fun _ _ _ _ => rfl,
  fun _ _ _ _ => rfl,
  fun _ _ _ _ _ _ _ _ => sx_e_nx rfl rfl,
  fun _ _ _ _ _ _ _ => sx_e_nx rfl rfl,
  fun _ _ _ _ _ _ _ _ => sx_e_nx rfl rfl,
  fun _ _ _ _ _ _ _ _ => sx_e_nx rfl rfl,
  fun _ _ _ _ _ _ _ _ _ => sx_e_getf rfl rfl (by decide) rfl,
  fun _ _ _ _ _ _ _ _ _ => sx_e_ige rfl (by decide) rfl,
  fun _ _ _ _ _ _ _ => sx_e_nx rfl rfl,
  fun _ _ _ _ _ _ _ _ => sx_e_nx rfl rfl,
  fun _ _ _ _ _ _ _ _ _ => sx_e_nx rfl rfl,
  fun _ _ _ _ _ _ _ _ _ _ => sx_e_eq rfl (by decide) rfl,
  fun _ _ _ _ _ _ _ _ _ => sx_e_nx rfl rfl,
  fun _ _ _ _ _ _ _ _ _ _ => sx_e_nx rfl rfl,
  fun _ _ _ _ _ _ _ _ _ _ _ => sx_e_nx rfl rfl,
  fun _ _ _ _ _ _ _ _ _ _ => sx_e_goto rfl (by decide),
  fun _ _ _ _ _ _ _ _ _ => sx_e_nx rfl rfl,
  fun _ _ _ _ _ _ _ _ _ _ => sx_e_nx rfl rfl,
  fun _ _ _ _ _ _ _ _ _ _ _ => sx_e_nx rfl rfl,
  fun _ _ _ _ _ _ _ _ _ _ hv => sx_e_virt rfl rfl ⟨Nat.le_of_ble_eq_true rfl, Nat.le_of_ble_eq_true rfl, rfl⟩ rfl rfl rfl hv,
  fun _ _ _ _ => rfl,
  fun _ _ _ _ => rfl,
  fun _ _ _ _ _ _ _ _ => sx_e_nx rfl rfl,
  fun _ _ _ _ _ _ _ _ _ => sx_e_ieq rfl (by decide) rfl,
  fun _ _ _ _ _ _ _ => sx_e_nx rfl rfl,
  fun _ _ _ _ _ _ _ _ => sx_e_ret rfl rfl rfl,
  fun _ _ _ _ _ _ _ => sx_e_nx rfl rfl,
  fun _ _ _ _ _ _ _ => sx_e_goto rfl (by decide),
  fun _ _ _ _ _ _ _ => sx_e_nx rfl rfl,
  fun _ _ _ _ _ _ _ _ => sx_e_getf rfl rfl (by decide) rfl,
  fun _ _ _ _ _ _ _ _ => sx_e_ret rfl rfl rfl⟩
/-- 8: X1_size ()I -/
theorem c8_q (S : List Int32) : ∀ (a0 : Nat) (h : sx_H), sx_Cl S 8 [.ref a0] h = sx_Ev S 8 0 [some (.ref a0)] [] h := fun _ _ => rfl
theorem q8 (S : List Int32) : (∀ (x : Nat) (h : sx_H), sx_Ev S 8 0 [some (.ref x)] [] h = sx_Ev S 8 1 [some (.ref x)] [.ref x] h) ∧
  (∀ (l0 : Option Value) (s0 : Nat) (h : sx_H), sx_Ev S 8 1 [l0] [.ref s0] h = (sx_fld h s0 0 5).bind fun v => sx_Ev S 8 4 [l0] [v] h) ∧
  (∀ (l0 : Option Value) (s0 : Nat) (h : sx_H), sx_Ev S 8 4 [l0] [.ref s0] h = (sx_ints S h s0).bind fun v => sx_Ev S 8 5 [l0] [.int (Int32.ofNat v.length)] h) ∧
  (∀ (l0 : Option Value) (s0 : Int32) (h : sx_H), sx_Ev S 8 5 [l0] [.int s0] h = some (.inl (some (.int s0)), h)) := ⟨fun _ _ => sx_e_nx rfl rfl,
  fun _ _ _ => sx_e_getf rfl rfl (by decide) rfl,
  fun _ _ _ => sx_e_alen rfl rfl,
  fun _ _ _ => sx_e_ret rfl rfl rfl⟩
/-- 9: X1_colourIn (I)I -/
theorem c9_q (S : List Int32) : ∀ (a0 : Nat) (a1 : Int32) (h : sx_H), sx_Cl S 9 [.ref a0, .int a1] h = sx_Ev S 9 0 [some (.ref a0), some (.int a1)] [] h := fun _ _ _ => rfl
theorem q9 (S : List Int32) : (∀ (l0 : Option Value) (x : Int32) (h : sx_H), sx_Ev S 9 0 [l0, some (.int x)] [] h = sx_Ev S 9 1 [l0, some (.int x)] [.int x] h) ∧
  (∀ (l0 l1 : Option Value) (s0 : Int32) (h : sx_H), sx_Ev S 9 1 [l0, l1] [.int s0] h = if s0 < 0 then sx_Ev S 9 22 [l0, l1] [] h else sx_Ev S 9 4 [l0, l1] [] h) ∧
  (∀ (l0 : Option Value) (x : Int32) (h : sx_H), sx_Ev S 9 4 [l0, some (.int x)] [] h = sx_Ev S 9 5 [l0, some (.int x)] [.int x] h) ∧
  (∀ (l1 : Option Value) (s0 : Int32) (x : Nat) (h : sx_H), sx_Ev S 9 5 [some (.ref x), l1] [.int s0] h = sx_Ev S 9 6 [some (.ref x), l1] [.ref x, .int s0] h) ∧
  (∀ (l0 l1 : Option Value) (s0 : Nat) (s1 : Int32) (h : sx_H), sx_Ev S 9 6 [l0, l1] [.ref s0, .int s1] h = (sx_fld h s0 0 6).bind fun v => sx_Ev S 9 9 [l0, l1] [v, .int s1] h) ∧
  (∀ (l0 l1 : Option Value) (s0 : Nat) (s1 : Int32) (h : sx_H), sx_Ev S 9 9 [l0, l1] [.ref s0, .int s1] h = (sx_ints S h s0).bind fun v => sx_Ev S 9 10 [l0, l1] [.int (Int32.ofNat v.length), .int s1] h) ∧
  (∀ (l0 l1 : Option Value) (s0 : Int32) (s1 : Int32) (h : sx_H), sx_Ev S 9 10 [l0, l1] [.int s0, .int s1] h = if s1 < s0 then sx_Ev S 9 13 [l0, l1] [] h else sx_Ev S 9 22 [l0, l1] [] h) ∧
  (∀ (l1 : Option Value) (x : Nat) (h : sx_H), sx_Ev S 9 13 [some (.ref x), l1] [] h = sx_Ev S 9 14 [some (.ref x), l1] [.ref x] h) ∧
  (∀ (l0 l1 : Option Value) (s0 : Nat) (h : sx_H), sx_Ev S 9 14 [l0, l1] [.ref s0] h = (sx_fld h s0 0 6).bind fun v => sx_Ev S 9 17 [l0, l1] [v] h) ∧
  (∀ (l0 : Option Value) (s0 : Nat) (x : Int32) (h : sx_H), sx_Ev S 9 17 [l0, some (.int x)] [.ref s0] h = sx_Ev S 9 18 [l0, some (.int x)] [.int x, .ref s0] h) ∧
  (∀ (l0 l1 : Option Value) (s0 : Int32) (s1 : Nat) (h : sx_H), sx_Ev S 9 18 [l0, l1] [.int s0, .ref s1] h = (sx_rd S h s1 s0).bind fun v => sx_Ev S 9 19 [l0, l1] [.int v] h) ∧
  (∀ (l0 l1 : Option Value) (s0 : Int32) (h : sx_H), sx_Ev S 9 19 [l0, l1] [.int s0] h = sx_Ev S 9 23 [l0, l1] [.int s0] h) ∧
  (∀ (l0 l1 : Option Value) (h : sx_H), sx_Ev S 9 22 [l0, l1] [] h = sx_Ev S 9 23 [l0, l1] [.int (sz (-1))] h) ∧
  (∀ (l0 l1 : Option Value) (s0 : Int32) (h : sx_H), sx_Ev S 9 23 [l0, l1] [.int s0] h = some (.inl (some (.int s0)), h)) := ⟨fun _ _ _ => sx_e_nx rfl rfl,
  fun _ _ _ _ => sx_e_lt rfl (by decide) rfl,
  fun _ _ _ => sx_e_nx rfl rfl,
  fun _ _ _ _ => sx_e_nx rfl rfl,
  fun _ _ _ _ _ => sx_e_getf rfl rfl (by decide) rfl,
  fun _ _ _ _ _ => sx_e_alen rfl rfl,
  fun _ _ _ _ _ => sx_e_ige rfl (by decide) rfl,
  fun _ _ _ => sx_e_nx rfl rfl,
  fun _ _ _ _ => sx_e_getf rfl rfl (by decide) rfl,
  fun _ _ _ _ => sx_e_nx rfl rfl,
  fun _ _ _ _ _ => sx_e_iald rfl rfl,
  fun _ _ _ _ => sx_e_goto rfl (by decide),
  fun _ _ _ => sx_e_nx rfl rfl,
  fun _ _ _ _ => sx_e_ret rfl rfl rfl⟩
/-- 10: X0_countSharedErrors (LBeadslant$Cloth;LBeadslant$Cloth;LBeadslant$Cloth;)I -/
theorem c10_q (S : List Int32) : ∀ (a0 : Nat) (a1 : Nat) (a2 : Nat) (h : sx_H), sx_Cl S 10 [.ref a0, .ref a1, .ref a2] h = sx_Ev S 10 0 [some (.ref a0), some (.ref a1), some (.ref a2), none, none, none, none] [] h := fun _ _ _ _ => rfl
theorem h10_5 (S : List Int32) : (∀ (l0 l1 l2 l3 l5 l6 : Option Value) (x : Int32) (h : sx_H), sx_Ev S 10 5 [l0, l1, l2, l3, some (.int x), l5, l6] [] h = sx_Ev S 10 7 [l0, l1, l2, l3, some (.int x), l5, l6] [.int x] h) := fun _ _ _ _ _ _ _ _ => sx_e_nx rfl rfl
theorem q10 (S : List Int32) : (∀ (l0 l1 l2 l3 l4 l5 l6 : Option Value) (h : sx_H), sx_Ev S 10 0 [l0, l1, l2, l3, l4, l5, l6] [] h = sx_Ev S 10 1 [l0, l1, l2, l3, l4, l5, l6] [.int (sz (0))] h) ∧
  (∀ (l0 l1 l2 l3 l4 l5 l6 : Option Value) (s0 : Int32) (h : sx_H), sx_Ev S 10 1 [l0, l1, l2, l3, l4, l5, l6] [.int s0] h = sx_Ev S 10 2 [l0, l1, l2, some (.int s0), l4, l5, l6] [] h) ∧
  (∀ (l0 l1 l2 l3 l4 l5 l6 : Option Value) (h : sx_H), sx_Ev S 10 2 [l0, l1, l2, l3, l4, l5, l6] [] h = sx_Ev S 10 3 [l0, l1, l2, l3, l4, l5, l6] [.int (sz (0))] h) ∧
  (∀ (l0 l1 l2 l3 l4 l5 l6 : Option Value) (s0 : Int32) (h : sx_H), sx_Ev S 10 3 [l0, l1, l2, l3, l4, l5, l6] [.int s0] h = sx_Ev S 10 5 [l0, l1, l2, l3, some (.int s0), l5, l6] [] h) ∧
  (∀ (l1 l2 l3 l4 l5 l6 : Option Value) (s0 : Int32) (x : Nat) (h : sx_H), sx_Ev S 10 7 [some (.ref x), l1, l2, l3, l4, l5, l6] [.int s0] h = sx_Ev S 10 8 [some (.ref x), l1, l2, l3, l4, l5, l6] [.ref x, .int s0] h) ∧
  (∀ (l0 l1 l2 l3 l4 l5 l6 : Option Value) (s0 : Nat) (s1 : Int32) (h : sx_H), sx_klass h s0 = some 0 → sx_Ev S 10 8 [l0, l1, l2, l3, l4, l5, l6] [.ref s0, .int s1] h = sx_back S 10 8 [l0, l1, l2, l3, l4, l5, l6] [.int s1] (sx_Cl S 8 [.ref s0] h)) ∧
  (∀ (ls : sx_L) (st : List Value) (v : Value) (h : sx_H), sx_back S 10 8 ls st (some (.inl (some v), h)) = sx_Ev S 10 11 ls (v :: st) h) ∧
  (∀ (ls : sx_L) (st : List Value) (e : Nat) (h : sx_H), sx_back S 10 8 ls st (some (.inr e, h)) = some (.inr e, h)) ∧
  (∀ (l0 l1 l2 l3 l4 l5 l6 : Option Value) (s0 : Int32) (s1 : Int32) (h : sx_H), sx_Ev S 10 11 [l0, l1, l2, l3, l4, l5, l6] [.int s0, .int s1] h = if s1 < s0 then sx_Ev S 10 14 [l0, l1, l2, l3, l4, l5, l6] [] h else sx_Ev S 10 69 [l0, l1, l2, l3, l4, l5, l6] [] h) ∧
  (∀ (l1 l2 l3 l4 l5 l6 : Option Value) (x : Nat) (h : sx_H), sx_Ev S 10 14 [some (.ref x), l1, l2, l3, l4, l5, l6] [] h = sx_Ev S 10 15 [some (.ref x), l1, l2, l3, l4, l5, l6] [.ref x] h) ∧
  (∀ (l0 l1 l2 l3 l5 l6 : Option Value) (s0 : Nat) (x : Int32) (h : sx_H), sx_Ev S 10 15 [l0, l1, l2, l3, some (.int x), l5, l6] [.ref s0] h = sx_Ev S 10 17 [l0, l1, l2, l3, some (.int x), l5, l6] [.int x, .ref s0] h) ∧
  (∀ (l0 l1 l2 l3 l4 l5 l6 : Option Value) (s0 : Int32) (s1 : Nat) (h : sx_H), sx_klass h s1 = some 0 → sx_Ev S 10 17 [l0, l1, l2, l3, l4, l5, l6] [.int s0, .ref s1] h = sx_back S 10 17 [l0, l1, l2, l3, l4, l5, l6] [] (sx_Cl S 9 [.ref s1, .int s0] h)) ∧
  (∀ (ls : sx_L) (st : List Value) (v : Value) (h : sx_H), sx_back S 10 17 ls st (some (.inl (some v), h)) = sx_Ev S 10 20 ls (v :: st) h) ∧
  (∀ (ls : sx_L) (st : List Value) (e : Nat) (h : sx_H), sx_back S 10 17 ls st (some (.inr e, h)) = some (.inr e, h)) ∧
  (∀ (l0 l1 l2 l3 l4 l5 l6 : Option Value) (s0 : Int32) (h : sx_H), sx_Ev S 10 20 [l0, l1, l2, l3, l4, l5, l6] [.int s0] h = sx_Ev S 10 22 [l0, l1, l2, l3, l4, some (.int s0), l6] [] h) ∧
  (∀ (l0 l1 l3 l4 l5 l6 : Option Value) (x : Nat) (h : sx_H), sx_Ev S 10 22 [l0, l1, some (.ref x), l3, l4, l5, l6] [] h = sx_Ev S 10 23 [l0, l1, some (.ref x), l3, l4, l5, l6] [.ref x] h) ∧
  (∀ (l0 l1 l2 l3 l5 l6 : Option Value) (s0 : Nat) (x : Int32) (h : sx_H), sx_Ev S 10 23 [l0, l1, l2, l3, some (.int x), l5, l6] [.ref s0] h = sx_Ev S 10 25 [l0, l1, l2, l3, some (.int x), l5, l6] [.int x, .ref s0] h) ∧
  (∀ (l0 l1 l2 l3 l4 l5 l6 : Option Value) (s0 : Int32) (s1 : Nat) (h : sx_H), sx_klass h s1 = some 0 → sx_Ev S 10 25 [l0, l1, l2, l3, l4, l5, l6] [.int s0, .ref s1] h = sx_back S 10 25 [l0, l1, l2, l3, l4, l5, l6] [] (sx_Cl S 9 [.ref s1, .int s0] h)) ∧
  (∀ (ls : sx_L) (st : List Value) (v : Value) (h : sx_H), sx_back S 10 25 ls st (some (.inl (some v), h)) = sx_Ev S 10 28 ls (v :: st) h) ∧
  (∀ (ls : sx_L) (st : List Value) (e : Nat) (h : sx_H), sx_back S 10 25 ls st (some (.inr e, h)) = some (.inr e, h)) ∧
  (∀ (l0 l1 l2 l3 l4 l5 l6 : Option Value) (s0 : Int32) (h : sx_H), sx_Ev S 10 28 [l0, l1, l2, l3, l4, l5, l6] [.int s0] h = sx_Ev S 10 30 [l0, l1, l2, l3, l4, l5, some (.int s0)] [] h) ∧
  (∀ (l0 l1 l2 l3 l4 l6 : Option Value) (x : Int32) (h : sx_H), sx_Ev S 10 30 [l0, l1, l2, l3, l4, some (.int x), l6] [] h = sx_Ev S 10 32 [l0, l1, l2, l3, l4, some (.int x), l6] [.int x] h) ∧
  (∀ (l0 l1 l2 l3 l4 l5 l6 : Option Value) (s0 : Int32) (h : sx_H), sx_Ev S 10 32 [l0, l1, l2, l3, l4, l5, l6] [.int s0] h = sx_Ev S 10 33 [l0, l1, l2, l3, l4, l5, l6] [.int (sz (-1)), .int s0] h) ∧
  (∀ (l0 l1 l2 l3 l4 l5 l6 : Option Value) (s0 : Int32) (s1 : Int32) (h : sx_H), sx_Ev S 10 33 [l0, l1, l2, l3, l4, l5, l6] [.int s0, .int s1] h = if s1 = s0 then sx_Ev S 10 63 [l0, l1, l2, l3, l4, l5, l6] [] h else sx_Ev S 10 36 [l0, l1, l2, l3, l4, l5, l6] [] h) ∧
  (∀ (l0 l1 l2 l3 l4 l5 : Option Value) (x : Int32) (h : sx_H), sx_Ev S 10 36 [l0, l1, l2, l3, l4, l5, some (.int x)] [] h = sx_Ev S 10 38 [l0, l1, l2, l3, l4, l5, some (.int x)] [.int x] h) ∧
  (∀ (l0 l1 l2 l3 l4 l5 l6 : Option Value) (s0 : Int32) (h : sx_H), sx_Ev S 10 38 [l0, l1, l2, l3, l4, l5, l6] [.int s0] h = sx_Ev S 10 39 [l0, l1, l2, l3, l4, l5, l6] [.int (sz (-1)), .int s0] h) ∧
  (∀ (l0 l1 l2 l3 l4 l5 l6 : Option Value) (s0 : Int32) (s1 : Int32) (h : sx_H), sx_Ev S 10 39 [l0, l1, l2, l3, l4, l5, l6] [.int s0, .int s1] h = if s1 = s0 then sx_Ev S 10 63 [l0, l1, l2, l3, l4, l5, l6] [] h else sx_Ev S 10 42 [l0, l1, l2, l3, l4, l5, l6] [] h) ∧
  (∀ (l0 l1 l2 l3 l4 l6 : Option Value) (x : Int32) (h : sx_H), sx_Ev S 10 42 [l0, l1, l2, l3, l4, some (.int x), l6] [] h = sx_Ev S 10 44 [l0, l1, l2, l3, l4, some (.int x), l6] [.int x] h) ∧
  (∀ (l0 l2 l3 l4 l5 l6 : Option Value) (s0 : Int32) (x : Nat) (h : sx_H), sx_Ev S 10 44 [l0, some (.ref x), l2, l3, l4, l5, l6] [.int s0] h = sx_Ev S 10 45 [l0, some (.ref x), l2, l3, l4, l5, l6] [.ref x, .int s0] h) ∧
  (∀ (l0 l1 l2 l3 l5 l6 : Option Value) (s0 : Nat) (s1 : Int32) (x : Int32) (h : sx_H), sx_Ev S 10 45 [l0, l1, l2, l3, some (.int x), l5, l6] [.ref s0, .int s1] h = sx_Ev S 10 47 [l0, l1, l2, l3, some (.int x), l5, l6] [.int x, .ref s0, .int s1] h) ∧
  (∀ (l0 l1 l2 l3 l4 l5 l6 : Option Value) (s0 : Int32) (s1 : Nat) (s2 : Int32) (h : sx_H), sx_klass h s1 = some 0 → sx_Ev S 10 47 [l0, l1, l2, l3, l4, l5, l6] [.int s0, .ref s1, .int s2] h = sx_back S 10 47 [l0, l1, l2, l3, l4, l5, l6] [.int s2] (sx_Cl S 9 [.ref s1, .int s0] h)) ∧
  (∀ (ls : sx_L) (st : List Value) (v : Value) (h : sx_H), sx_back S 10 47 ls st (some (.inl (some v), h)) = sx_Ev S 10 50 ls (v :: st) h) ∧
  (∀ (ls : sx_L) (st : List Value) (e : Nat) (h : sx_H), sx_back S 10 47 ls st (some (.inr e, h)) = some (.inr e, h)) ∧
  (∀ (l0 l1 l2 l3 l4 l5 l6 : Option Value) (s0 : Int32) (s1 : Int32) (h : sx_H), sx_Ev S 10 50 [l0, l1, l2, l3, l4, l5, l6] [.int s0, .int s1] h = if s1 = s0 then sx_Ev S 10 53 [l0, l1, l2, l3, l4, l5, l6] [] h else sx_Ev S 10 63 [l0, l1, l2, l3, l4, l5, l6] [] h) ∧
  (∀ (l0 l1 l2 l3 l4 l6 : Option Value) (x : Int32) (h : sx_H), sx_Ev S 10 53 [l0, l1, l2, l3, l4, some (.int x), l6] [] h = sx_Ev S 10 55 [l0, l1, l2, l3, l4, some (.int x), l6] [.int x] h) ∧
  (∀ (l0 l1 l2 l3 l4 l5 : Option Value) (s0 : Int32) (x : Int32) (h : sx_H), sx_Ev S 10 55 [l0, l1, l2, l3, l4, l5, some (.int x)] [.int s0] h = sx_Ev S 10 57 [l0, l1, l2, l3, l4, l5, some (.int x)] [.int x, .int s0] h) ∧
  (∀ (l0 l1 l2 l3 l4 l5 l6 : Option Value) (s0 : Int32) (s1 : Int32) (h : sx_H), sx_Ev S 10 57 [l0, l1, l2, l3, l4, l5, l6] [.int s0, .int s1] h = if s1 = s0 then sx_Ev S 10 63 [l0, l1, l2, l3, l4, l5, l6] [] h else sx_Ev S 10 60 [l0, l1, l2, l3, l4, l5, l6] [] h) ∧
  (∀ (l0 l1 l2 l4 l5 l6 : Option Value) (x : Int32) (h : sx_H), sx_Ev S 10 60 [l0, l1, l2, some (.int x), l4, l5, l6] [] h = sx_Ev S 10 63 [l0, l1, l2, some (.int (x + sz (1))), l4, l5, l6] [] h) ∧
  (∀ (l0 l1 l2 l3 l5 l6 : Option Value) (x : Int32) (h : sx_H), sx_Ev S 10 63 [l0, l1, l2, l3, some (.int x), l5, l6] [] h = sx_Ev S 10 66 [l0, l1, l2, l3, some (.int (x + sz (1))), l5, l6] [] h) ∧
  (∀ (l0 l1 l2 l3 l4 l5 l6 : Option Value) (h : sx_H), sx_Ev S 10 66 [l0, l1, l2, l3, l4, l5, l6] [] h = sx_Ev S 10 5 [l0, l1, l2, l3, l4, l5, l6] [] h) ∧
  (∀ (l0 l1 l2 l4 l5 l6 : Option Value) (x : Int32) (h : sx_H), sx_Ev S 10 69 [l0, l1, l2, some (.int x), l4, l5, l6] [] h = sx_Ev S 10 70 [l0, l1, l2, some (.int x), l4, l5, l6] [.int x] h) ∧
  (∀ (l0 l1 l2 l3 l4 l5 l6 : Option Value) (s0 : Int32) (h : sx_H), sx_Ev S 10 70 [l0, l1, l2, l3, l4, l5, l6] [.int s0] h = some (.inl (some (.int s0)), h)) := ⟨fun _ _ _ _ _ _ _ _ => sx_e_nx rfl rfl,
  fun _ _ _ _ _ _ _ _ _ => sx_e_nx rfl rfl,
  fun _ _ _ _ _ _ _ _ => sx_e_nx rfl rfl,
  fun _ _ _ _ _ _ _ _ _ => sx_e_nx rfl rfl,
  fun _ _ _ _ _ _ _ _ _ => sx_e_nx rfl rfl,
  fun _ _ _ _ _ _ _ _ _ _ hv => sx_e_virt rfl rfl ⟨Nat.le_of_ble_eq_true rfl, Nat.le_of_ble_eq_true rfl, rfl⟩ rfl rfl rfl hv,
  fun _ _ _ _ => rfl,
  fun _ _ _ _ => rfl,
  fun _ _ _ _ _ _ _ _ _ _ => sx_e_ige rfl (by decide) rfl,
  fun _ _ _ _ _ _ _ _ => sx_e_nx rfl rfl,
  fun _ _ _ _ _ _ _ _ _ => sx_e_nx rfl rfl,
  fun _ _ _ _ _ _ _ _ _ _ hv => sx_e_virt rfl rfl ⟨Nat.le_of_ble_eq_true rfl, Nat.le_of_ble_eq_true rfl, rfl⟩ rfl rfl rfl hv,
  fun _ _ _ _ => rfl,
  fun _ _ _ _ => rfl,
  fun _ _ _ _ _ _ _ _ _ => sx_e_nx rfl rfl,
  fun _ _ _ _ _ _ _ _ => sx_e_nx rfl rfl,
  fun _ _ _ _ _ _ _ _ _ => sx_e_nx rfl rfl,
  fun _ _ _ _ _ _ _ _ _ _ hv => sx_e_virt rfl rfl ⟨Nat.le_of_ble_eq_true rfl, Nat.le_of_ble_eq_true rfl, rfl⟩ rfl rfl rfl hv,
  fun _ _ _ _ => rfl,
  fun _ _ _ _ => rfl,
  fun _ _ _ _ _ _ _ _ _ => sx_e_nx rfl rfl,
  fun _ _ _ _ _ _ _ _ => sx_e_nx rfl rfl,
  fun _ _ _ _ _ _ _ _ _ => sx_e_nx rfl rfl,
  fun _ _ _ _ _ _ _ _ _ _ => sx_e_ieq rfl (by decide) rfl,
  fun _ _ _ _ _ _ _ _ => sx_e_nx rfl rfl,
  fun _ _ _ _ _ _ _ _ _ => sx_e_nx rfl rfl,
  fun _ _ _ _ _ _ _ _ _ _ => sx_e_ieq rfl (by decide) rfl,
  fun _ _ _ _ _ _ _ _ => sx_e_nx rfl rfl,
  fun _ _ _ _ _ _ _ _ _ => sx_e_nx rfl rfl,
  fun _ _ _ _ _ _ _ _ _ _ => sx_e_nx rfl rfl,
  fun _ _ _ _ _ _ _ _ _ _ _ hv => sx_e_virt rfl rfl ⟨Nat.le_of_ble_eq_true rfl, Nat.le_of_ble_eq_true rfl, rfl⟩ rfl rfl rfl hv,
  fun _ _ _ _ => rfl,
  fun _ _ _ _ => rfl,
  fun _ _ _ _ _ _ _ _ _ _ => sx_e_ine rfl (by decide) rfl,
  fun _ _ _ _ _ _ _ _ => sx_e_nx rfl rfl,
  fun _ _ _ _ _ _ _ _ _ => sx_e_nx rfl rfl,
  fun _ _ _ _ _ _ _ _ _ _ => sx_e_ieq rfl (by decide) rfl,
  fun _ _ _ _ _ _ _ _ => sx_e_nx rfl rfl,
  fun _ _ _ _ _ _ _ _ => sx_e_nx rfl rfl,
  fun _ _ _ _ _ _ _ _ => sx_e_goto rfl (by decide),
  fun _ _ _ _ _ _ _ _ => sx_e_nx rfl rfl,
  fun _ _ _ _ _ _ _ _ _ => sx_e_ret rfl rfl rfl⟩
/-- 11: X0_countInStep (LBeadslant$Cloth;IIII)I -/
theorem c11_q (S : List Int32) : ∀ (a0 : Nat) (a1 : Int32) (a2 : Int32) (a3 : Int32) (a4 : Int32) (h : sx_H), sx_Cl S 11 [.ref a0, .int a1, .int a2, .int a3, .int a4] h = sx_Ev S 11 0 [some (.ref a0), some (.int a1), some (.int a2), some (.int a3), some (.int a4), none, none] [] h := fun _ _ _ _ _ _ => rfl
theorem h11_6 (S : List Int32) : (∀ (l0 l1 l2 l3 l4 l5 : Option Value) (x : Int32) (h : sx_H), sx_Ev S 11 6 [l0, l1, l2, l3, l4, l5, some (.int x)] [] h = sx_Ev S 11 8 [l0, l1, l2, l3, l4, l5, some (.int x)] [.int x] h) := fun _ _ _ _ _ _ _ _ => sx_e_nx rfl rfl
theorem q11 (S : List Int32) : (∀ (l0 l1 l2 l3 l4 l5 l6 : Option Value) (h : sx_H), sx_Ev S 11 0 [l0, l1, l2, l3, l4, l5, l6] [] h = sx_Ev S 11 1 [l0, l1, l2, l3, l4, l5, l6] [.int (sz (0))] h) ∧
  (∀ (l0 l1 l2 l3 l4 l5 l6 : Option Value) (s0 : Int32) (h : sx_H), sx_Ev S 11 1 [l0, l1, l2, l3, l4, l5, l6] [.int s0] h = sx_Ev S 11 3 [l0, l1, l2, l3, l4, some (.int s0), l6] [] h) ∧
  (∀ (l0 l1 l2 l3 l4 l5 l6 : Option Value) (h : sx_H), sx_Ev S 11 3 [l0, l1, l2, l3, l4, l5, l6] [] h = sx_Ev S 11 4 [l0, l1, l2, l3, l4, l5, l6] [.int (sz (0))] h) ∧
  (∀ (l0 l1 l2 l3 l4 l5 l6 : Option Value) (s0 : Int32) (h : sx_H), sx_Ev S 11 4 [l0, l1, l2, l3, l4, l5, l6] [.int s0] h = sx_Ev S 11 6 [l0, l1, l2, l3, l4, l5, some (.int s0)] [] h) ∧
  (∀ (l1 l2 l3 l4 l5 l6 : Option Value) (s0 : Int32) (x : Nat) (h : sx_H), sx_Ev S 11 8 [some (.ref x), l1, l2, l3, l4, l5, l6] [.int s0] h = sx_Ev S 11 9 [some (.ref x), l1, l2, l3, l4, l5, l6] [.ref x, .int s0] h) ∧
  (∀ (l0 l1 l2 l3 l4 l5 l6 : Option Value) (s0 : Nat) (s1 : Int32) (h : sx_H), sx_Ev S 11 9 [l0, l1, l2, l3, l4, l5, l6] [.ref s0, .int s1] h = (sx_fld h s0 0 2).bind fun v => sx_Ev S 11 12 [l0, l1, l2, l3, l4, l5, l6] [v, .int s1] h) ∧
  (∀ (l0 l1 l2 l3 l4 l5 l6 : Option Value) (s0 : Int32) (s1 : Int32) (h : sx_H), sx_Ev S 11 12 [l0, l1, l2, l3, l4, l5, l6] [.int s0, .int s1] h = if s1 < s0 then sx_Ev S 11 15 [l0, l1, l2, l3, l4, l5, l6] [] h else sx_Ev S 11 55 [l0, l1, l2, l3, l4, l5, l6] [] h) ∧
  (∀ (l0 l1 l2 l4 l5 l6 : Option Value) (x : Int32) (h : sx_H), sx_Ev S 11 15 [l0, l1, l2, some (.int x), l4, l5, l6] [] h = sx_Ev S 11 16 [l0, l1, l2, some (.int x), l4, l5, l6] [.int x] h) ∧
  (∀ (l0 l1 l2 l3 l4 l5 l6 : Option Value) (s0 : Int32) (h : sx_H), sx_Ev S 11 16 [l0, l1, l2, l3, l4, l5, l6] [.int s0] h = if 0 < s0 then sx_Ev S 11 19 [l0, l1, l2, l3, l4, l5, l6] [] h else sx_Ev S 11 49 [l0, l1, l2, l3, l4, l5, l6] [] h) ∧
  (∀ (l0 l1 l2 l3 l4 l5 : Option Value) (x : Int32) (h : sx_H), sx_Ev S 11 19 [l0, l1, l2, l3, l4, l5, some (.int x)] [] h = sx_Ev S 11 21 [l0, l1, l2, l3, l4, l5, some (.int x)] [.int x] h) ∧
  (∀ (l0 l1 l3 l4 l5 l6 : Option Value) (s0 : Int32) (x : Int32) (h : sx_H), sx_Ev S 11 21 [l0, l1, some (.int x), l3, l4, l5, l6] [.int s0] h = sx_Ev S 11 22 [l0, l1, some (.int x), l3, l4, l5, l6] [.int x, .int s0] h) ∧
  (∀ (l0 l1 l2 l3 l4 l5 l6 : Option Value) (s0 : Int32) (s1 : Int32) (h : sx_H), sx_Ev S 11 22 [l0, l1, l2, l3, l4, l5, l6] [.int s0, .int s1] h = if s1 = s0 then sx_Ev S 11 49 [l0, l1, l2, l3, l4, l5, l6] [] h else sx_Ev S 11 25 [l0, l1, l2, l3, l4, l5, l6] [] h) ∧
  (∀ (l0 l1 l2 l3 l4 l5 : Option Value) (x : Int32) (h : sx_H), sx_Ev S 11 25 [l0, l1, l2, l3, l4, l5, some (.int x)] [] h = sx_Ev S 11 27 [l0, l1, l2, l3, l4, l5, some (.int x)] [.int x] h) ∧
  (∀ (l0 l1 l3 l4 l5 l6 : Option Value) (s0 : Int32) (x : Int32) (h : sx_H), sx_Ev S 11 27 [l0, l1, some (.int x), l3, l4, l5, l6] [.int s0] h = sx_Ev S 11 28 [l0, l1, some (.int x), l3, l4, l5, l6] [.int x, .int s0] h) ∧
  (∀ (l0 l1 l2 l3 l4 l5 l6 : Option Value) (s0 : Int32) (s1 : Int32) (h : sx_H), sx_Ev S 11 28 [l0, l1, l2, l3, l4, l5, l6] [.int s0, .int s1] h = sx_Ev S 11 29 [l0, l1, l2, l3, l4, l5, l6] [.int (s1 - s0)] h) ∧
  (∀ (l0 l1 l2 l4 l5 l6 : Option Value) (s0 : Int32) (x : Int32) (h : sx_H), sx_Ev S 11 29 [l0, l1, l2, some (.int x), l4, l5, l6] [.int s0] h = sx_Ev S 11 30 [l0, l1, l2, some (.int x), l4, l5, l6] [.int x, .int s0] h) ∧
  (∀ (l0 l1 l2 l3 l4 l5 l6 : Option Value) (s0 : Int32) (s1 : Int32) (h : sx_H), sx_Ev S 11 30 [l0, l1, l2, l3, l4, l5, l6] [.int s0, .int s1] h = if s0 = 0 then none else sx_Ev S 11 31 [l0, l1, l2, l3, l4, l5, l6] [.int (s1 - s1 / s0 * s0)] h) ∧
  (∀ (l0 l1 l2 l3 l4 l5 l6 : Option Value) (s0 : Int32) (h : sx_H), sx_Ev S 11 31 [l0, l1, l2, l3, l4, l5, l6] [.int s0] h = if s0 = 0 then sx_Ev S 11 34 [l0, l1, l2, l3, l4, l5, l6] [] h else sx_Ev S 11 49 [l0, l1, l2, l3, l4, l5, l6] [] h) ∧
  (∀ (l1 l2 l3 l4 l5 l6 : Option Value) (x : Nat) (h : sx_H), sx_Ev S 11 34 [some (.ref x), l1, l2, l3, l4, l5, l6] [] h = sx_Ev S 11 35 [some (.ref x), l1, l2, l3, l4, l5, l6] [.ref x] h) ∧
  (∀ (l0 l2 l3 l4 l5 l6 : Option Value) (s0 : Nat) (x : Int32) (h : sx_H), sx_Ev S 11 35 [l0, some (.int x), l2, l3, l4, l5, l6] [.ref s0] h = sx_Ev S 11 36 [l0, some (.int x), l2, l3, l4, l5, l6] [.int x, .ref s0] h) ∧
  (∀ (l0 l1 l2 l3 l4 l5 : Option Value) (s0 : Int32) (s1 : Nat) (x : Int32) (h : sx_H), sx_Ev S 11 36 [l0, l1, l2, l3, l4, l5, some (.int x)] [.int s0, .ref s1] h = sx_Ev S 11 38 [l0, l1, l2, l3, l4, l5, some (.int x)] [.int x, .int s0, .ref s1] h) ∧
  (∀ (l0 l1 l2 l3 l4 l5 l6 : Option Value) (s0 : Int32) (s1 : Int32) (s2 : Nat) (h : sx_H), sx_klass h s2 = some 0 → sx_Ev S 11 38 [l0, l1, l2, l3, l4, l5, l6] [.int s0, .int s1, .ref s2] h = sx_back S 11 38 [l0, l1, l2, l3, l4, l5, l6] [] (sx_Cl S 0 [.ref s2, .int s1, .int s0] h)) ∧
  (∀ (ls : sx_L) (st : List Value) (v : Value) (h : sx_H), sx_back S 11 38 ls st (some (.inl (some v), h)) = sx_Ev S 11 41 ls (v :: st) h) ∧
  (∀ (ls : sx_L) (st : List Value) (e : Nat) (h : sx_H), sx_back S 11 38 ls st (some (.inr e, h)) = some (.inr e, h)) ∧
  (∀ (l0 l1 l2 l3 l5 l6 : Option Value) (s0 : Int32) (x : Int32) (h : sx_H), sx_Ev S 11 41 [l0, l1, l2, l3, some (.int x), l5, l6] [.int s0] h = sx_Ev S 11 43 [l0, l1, l2, l3, some (.int x), l5, l6] [.int x, .int s0] h) ∧
  (∀ (l0 l1 l2 l3 l4 l5 l6 : Option Value) (s0 : Int32) (s1 : Int32) (h : sx_H), sx_Ev S 11 43 [l0, l1, l2, l3, l4, l5, l6] [.int s0, .int s1] h = if s1 = s0 then sx_Ev S 11 46 [l0, l1, l2, l3, l4, l5, l6] [] h else sx_Ev S 11 49 [l0, l1, l2, l3, l4, l5, l6] [] h) ∧
  (∀ (l0 l1 l2 l3 l4 l6 : Option Value) (x : Int32) (h : sx_H), sx_Ev S 11 46 [l0, l1, l2, l3, l4, some (.int x), l6] [] h = sx_Ev S 11 49 [l0, l1, l2, l3, l4, some (.int (x + sz (1))), l6] [] h) ∧
  (∀ (l0 l1 l2 l3 l4 l5 : Option Value) (x : Int32) (h : sx_H), sx_Ev S 11 49 [l0, l1, l2, l3, l4, l5, some (.int x)] [] h = sx_Ev S 11 52 [l0, l1, l2, l3, l4, l5, some (.int (x + sz (1)))] [] h) ∧
  (∀ (l0 l1 l2 l3 l4 l5 l6 : Option Value) (h : sx_H), sx_Ev S 11 52 [l0, l1, l2, l3, l4, l5, l6] [] h = sx_Ev S 11 6 [l0, l1, l2, l3, l4, l5, l6] [] h) ∧
  (∀ (l0 l1 l2 l3 l4 l6 : Option Value) (x : Int32) (h : sx_H), sx_Ev S 11 55 [l0, l1, l2, l3, l4, some (.int x), l6] [] h = sx_Ev S 11 57 [l0, l1, l2, l3, l4, some (.int x), l6] [.int x] h) ∧
  (∀ (l0 l1 l2 l3 l4 l5 l6 : Option Value) (s0 : Int32) (h : sx_H), sx_Ev S 11 57 [l0, l1, l2, l3, l4, l5, l6] [.int s0] h = some (.inl (some (.int s0)), h)) := ⟨fun _ _ _ _ _ _ _ _ => sx_e_nx rfl rfl,
  fun _ _ _ _ _ _ _ _ _ => sx_e_nx rfl rfl,
  fun _ _ _ _ _ _ _ _ => sx_e_nx rfl rfl,
  fun _ _ _ _ _ _ _ _ _ => sx_e_nx rfl rfl,
  fun _ _ _ _ _ _ _ _ _ => sx_e_nx rfl rfl,
  fun _ _ _ _ _ _ _ _ _ _ => sx_e_getf rfl rfl (by decide) rfl,
  fun _ _ _ _ _ _ _ _ _ _ => sx_e_ige rfl (by decide) rfl,
  fun _ _ _ _ _ _ _ _ => sx_e_nx rfl rfl,
  fun _ _ _ _ _ _ _ _ _ => sx_e_le rfl (by decide) rfl,
  fun _ _ _ _ _ _ _ _ => sx_e_nx rfl rfl,
  fun _ _ _ _ _ _ _ _ _ => sx_e_nx rfl rfl,
  fun _ _ _ _ _ _ _ _ _ _ => sx_e_ieq rfl (by decide) rfl,
  fun _ _ _ _ _ _ _ _ => sx_e_nx rfl rfl,
  fun _ _ _ _ _ _ _ _ _ => sx_e_nx rfl rfl,
  fun _ _ _ _ _ _ _ _ _ _ => sx_e_nx rfl rfl,
  fun _ _ _ _ _ _ _ _ _ => sx_e_nx rfl rfl,
  fun _ _ _ _ _ _ _ _ _ _ => sx_e_rem rfl rfl,
  fun _ _ _ _ _ _ _ _ _ => sx_e_ne rfl (by decide) rfl,
  fun _ _ _ _ _ _ _ _ => sx_e_nx rfl rfl,
  fun _ _ _ _ _ _ _ _ _ => sx_e_nx rfl rfl,
  fun _ _ _ _ _ _ _ _ _ _ => sx_e_nx rfl rfl,
  fun _ _ _ _ _ _ _ _ _ _ _ hv => sx_e_virt rfl rfl ⟨Nat.le_of_ble_eq_true rfl, Nat.le_of_ble_eq_true rfl, rfl⟩ rfl rfl rfl hv,
  fun _ _ _ _ => rfl,
  fun _ _ _ _ => rfl,
  fun _ _ _ _ _ _ _ _ _ => sx_e_nx rfl rfl,
  fun _ _ _ _ _ _ _ _ _ _ => sx_e_ine rfl (by decide) rfl,
  fun _ _ _ _ _ _ _ _ => sx_e_nx rfl rfl,
  fun _ _ _ _ _ _ _ _ => sx_e_nx rfl rfl,
  fun _ _ _ _ _ _ _ _ => sx_e_goto rfl (by decide),
  fun _ _ _ _ _ _ _ _ => sx_e_nx rfl rfl,
  fun _ _ _ _ _ _ _ _ _ => sx_e_ret rfl rfl rfl⟩
/-- 12: X0_mostFrequent (LBeadslant$Cloth;III)I -/
theorem c12_q (S : List Int32) : ∀ (a0 : Nat) (a1 : Int32) (a2 : Int32) (a3 : Int32) (h : sx_H), sx_Cl S 12 [.ref a0, .int a1, .int a2, .int a3] h = sx_Ev S 12 0 [some (.ref a0), some (.int a1), some (.int a2), some (.int a3), none, none, none, none] [] h := fun _ _ _ _ _ => rfl
theorem h12_9 (S : List Int32) : (∀ (l0 l1 l2 l3 l4 l5 l7 : Option Value) (x : Int32) (h : sx_H), sx_Ev S 12 9 [l0, l1, l2, l3, l4, l5, some (.int x), l7] [] h = sx_Ev S 12 11 [l0, l1, l2, l3, l4, l5, some (.int x), l7] [.int x] h) := fun _ _ _ _ _ _ _ _ _ => sx_e_nx rfl rfl
theorem q12 (S : List Int32) : (∀ (l0 l1 l2 l3 l4 l5 l6 l7 : Option Value) (h : sx_H), sx_Ev S 12 0 [l0, l1, l2, l3, l4, l5, l6, l7] [] h = sx_Ev S 12 1 [l0, l1, l2, l3, l4, l5, l6, l7] [.int (sz (-1))] h) ∧
  (∀ (l0 l1 l2 l3 l4 l5 l6 l7 : Option Value) (s0 : Int32) (h : sx_H), sx_Ev S 12 1 [l0, l1, l2, l3, l4, l5, l6, l7] [.int s0] h = sx_Ev S 12 3 [l0, l1, l2, l3, some (.int s0), l5, l6, l7] [] h) ∧
  (∀ (l0 l1 l2 l3 l4 l5 l6 l7 : Option Value) (h : sx_H), sx_Ev S 12 3 [l0, l1, l2, l3, l4, l5, l6, l7] [] h = sx_Ev S 12 4 [l0, l1, l2, l3, l4, l5, l6, l7] [.int (sz (0))] h) ∧
  (∀ (l0 l1 l2 l3 l4 l5 l6 l7 : Option Value) (s0 : Int32) (h : sx_H), sx_Ev S 12 4 [l0, l1, l2, l3, l4, l5, l6, l7] [.int s0] h = sx_Ev S 12 6 [l0, l1, l2, l3, l4, some (.int s0), l6, l7] [] h) ∧
  (∀ (l0 l1 l2 l3 l4 l5 l6 l7 : Option Value) (h : sx_H), sx_Ev S 12 6 [l0, l1, l2, l3, l4, l5, l6, l7] [] h = sx_Ev S 12 7 [l0, l1, l2, l3, l4, l5, l6, l7] [.int (sz (0))] h) ∧
  (∀ (l0 l1 l2 l3 l4 l5 l6 l7 : Option Value) (s0 : Int32) (h : sx_H), sx_Ev S 12 7 [l0, l1, l2, l3, l4, l5, l6, l7] [.int s0] h = sx_Ev S 12 9 [l0, l1, l2, l3, l4, l5, some (.int s0), l7] [] h) ∧
  (∀ (l0 l1 l2 l3 l4 l5 l6 l7 : Option Value) (s0 : Int32) (h : sx_H), sx_Ev S 12 11 [l0, l1, l2, l3, l4, l5, l6, l7] [.int s0] h = sx_Ev S 12 13 [l0, l1, l2, l3, l4, l5, l6, l7] [.int (sz (7)), .int s0] h) ∧
  (∀ (l0 l1 l2 l3 l4 l5 l6 l7 : Option Value) (s0 : Int32) (s1 : Int32) (h : sx_H), sx_Ev S 12 13 [l0, l1, l2, l3, l4, l5, l6, l7] [.int s0, .int s1] h = if s0 < s1 then sx_Ev S 12 48 [l0, l1, l2, l3, l4, l5, l6, l7] [] h else sx_Ev S 12 16 [l0, l1, l2, l3, l4, l5, l6, l7] [] h) ∧
  (∀ (l1 l2 l3 l4 l5 l6 l7 : Option Value) (x : Nat) (h : sx_H), sx_Ev S 12 16 [some (.ref x), l1, l2, l3, l4, l5, l6, l7] [] h = sx_Ev S 12 17 [some (.ref x), l1, l2, l3, l4, l5, l6, l7] [.ref x] h) ∧
  (∀ (l0 l2 l3 l4 l5 l6 l7 : Option Value) (s0 : Nat) (x : Int32) (h : sx_H), sx_Ev S 12 17 [l0, some (.int x), l2, l3, l4, l5, l6, l7] [.ref s0] h = sx_Ev S 12 18 [l0, some (.int x), l2, l3, l4, l5, l6, l7] [.int x, .ref s0] h) ∧
  (∀ (l0 l1 l3 l4 l5 l6 l7 : Option Value) (s0 : Int32) (s1 : Nat) (x : Int32) (h : sx_H), sx_Ev S 12 18 [l0, l1, some (.int x), l3, l4, l5, l6, l7] [.int s0, .ref s1] h = sx_Ev S 12 19 [l0, l1, some (.int x), l3, l4, l5, l6, l7] [.int x, .int s0, .ref s1] h) ∧
  (∀ (l0 l1 l2 l4 l5 l6 l7 : Option Value) (s0 : Int32) (s1 : Int32) (s2 : Nat) (x : Int32) (h : sx_H), sx_Ev S 12 19 [l0, l1, l2, some (.int x), l4, l5, l6, l7] [.int s0, .int s1, .ref s2] h = sx_Ev S 12 20 [l0, l1, l2, some (.int x), l4, l5, l6, l7] [.int x, .int s0, .int s1, .ref s2] h) ∧
  (∀ (l0 l1 l2 l3 l4 l5 l7 : Option Value) (s0 : Int32) (s1 : Int32) (s2 : Int32) (s3 : Nat) (x : Int32) (h : sx_H), sx_Ev S 12 20 [l0, l1, l2, l3, l4, l5, some (.int x), l7] [.int s0, .int s1, .int s2, .ref s3] h = sx_Ev S 12 22 [l0, l1, l2, l3, l4, l5, some (.int x), l7] [.int x, .int s0, .int s1, .int s2, .ref s3] h) ∧
  (∀ (l0 l1 l2 l3 l4 l5 l6 l7 : Option Value) (s0 : Int32) (s1 : Int32) (s2 : Int32) (s3 : Int32) (s4 : Nat) (h : sx_H), sx_Ev S 12 22 [l0, l1, l2, l3, l4, l5, l6, l7] [.int s0, .int s1, .int s2, .int s3, .ref s4] h = sx_back S 12 22 [l0, l1, l2, l3, l4, l5, l6, l7] [] (sx_Cl S 11 [.ref s4, .int s3, .int s2, .int s1, .int s0] h)) ∧
  (∀ (ls : sx_L) (st : List Value) (v : Value) (h : sx_H), sx_back S 12 22 ls st (some (.inl (some v), h)) = sx_Ev S 12 25 ls (v :: st) h) ∧
  (∀ (ls : sx_L) (st : List Value) (e : Nat) (h : sx_H), sx_back S 12 22 ls st (some (.inr e, h)) = some (.inr e, h)) ∧
  (∀ (l0 l1 l2 l3 l4 l5 l6 l7 : Option Value) (s0 : Int32) (h : sx_H), sx_Ev S 12 25 [l0, l1, l2, l3, l4, l5, l6, l7] [.int s0] h = sx_Ev S 12 27 [l0, l1, l2, l3, l4, l5, l6, some (.int s0)] [] h) ∧
  (∀ (l0 l1 l2 l3 l4 l5 l6 : Option Value) (x : Int32) (h : sx_H), sx_Ev S 12 27 [l0, l1, l2, l3, l4, l5, l6, some (.int x)] [] h = sx_Ev S 12 29 [l0, l1, l2, l3, l4, l5, l6, some (.int x)] [.int x] h) ∧
  (∀ (l0 l1 l2 l3 l4 l6 l7 : Option Value) (s0 : Int32) (x : Int32) (h : sx_H), sx_Ev S 12 29 [l0, l1, l2, l3, l4, some (.int x), l6, l7] [.int s0] h = sx_Ev S 12 31 [l0, l1, l2, l3, l4, some (.int x), l6, l7] [.int x, .int s0] h) ∧
  (∀ (l0 l1 l2 l3 l4 l5 l6 l7 : Option Value) (s0 : Int32) (s1 : Int32) (h : sx_H), sx_Ev S 12 31 [l0, l1, l2, l3, l4, l5, l6, l7] [.int s0, .int s1] h = if s0 < s1 then sx_Ev S 12 34 [l0, l1, l2, l3, l4, l5, l6, l7] [] h else sx_Ev S 12 42 [l0, l1, l2, l3, l4, l5, l6, l7] [] h) ∧
  (∀ (l0 l1 l2 l3 l4 l5 l6 : Option Value) (x : Int32) (h : sx_H), sx_Ev S 12 34 [l0, l1, l2, l3, l4, l5, l6, some (.int x)] [] h = sx_Ev S 12 36 [l0, l1, l2, l3, l4, l5, l6, some (.int x)] [.int x] h) ∧
  (∀ (l0 l1 l2 l3 l4 l5 l6 l7 : Option Value) (s0 : Int32) (h : sx_H), sx_Ev S 12 36 [l0, l1, l2, l3, l4, l5, l6, l7] [.int s0] h = sx_Ev S 12 38 [l0, l1, l2, l3, l4, some (.int s0), l6, l7] [] h) ∧
  (∀ (l0 l1 l2 l3 l4 l5 l7 : Option Value) (x : Int32) (h : sx_H), sx_Ev S 12 38 [l0, l1, l2, l3, l4, l5, some (.int x), l7] [] h = sx_Ev S 12 40 [l0, l1, l2, l3, l4, l5, some (.int x), l7] [.int x] h) ∧
  (∀ (l0 l1 l2 l3 l4 l5 l6 l7 : Option Value) (s0 : Int32) (h : sx_H), sx_Ev S 12 40 [l0, l1, l2, l3, l4, l5, l6, l7] [.int s0] h = sx_Ev S 12 42 [l0, l1, l2, l3, some (.int s0), l5, l6, l7] [] h) ∧
  (∀ (l0 l1 l2 l3 l4 l5 l7 : Option Value) (x : Int32) (h : sx_H), sx_Ev S 12 42 [l0, l1, l2, l3, l4, l5, some (.int x), l7] [] h = sx_Ev S 12 45 [l0, l1, l2, l3, l4, l5, some (.int (x + sz (1))), l7] [] h) ∧
  (∀ (l0 l1 l2 l3 l4 l5 l6 l7 : Option Value) (h : sx_H), sx_Ev S 12 45 [l0, l1, l2, l3, l4, l5, l6, l7] [] h = sx_Ev S 12 9 [l0, l1, l2, l3, l4, l5, l6, l7] [] h) ∧
  (∀ (l0 l1 l2 l3 l5 l6 l7 : Option Value) (x : Int32) (h : sx_H), sx_Ev S 12 48 [l0, l1, l2, l3, some (.int x), l5, l6, l7] [] h = sx_Ev S 12 50 [l0, l1, l2, l3, some (.int x), l5, l6, l7] [.int x] h) ∧
  (∀ (l0 l1 l2 l3 l4 l5 l6 l7 : Option Value) (s0 : Int32) (h : sx_H), sx_Ev S 12 50 [l0, l1, l2, l3, l4, l5, l6, l7] [.int s0] h = some (.inl (some (.int s0)), h)) := ⟨fun _ _ _ _ _ _ _ _ _ => sx_e_nx rfl rfl,
  fun _ _ _ _ _ _ _ _ _ _ => sx_e_nx rfl rfl,
  fun _ _ _ _ _ _ _ _ _ => sx_e_nx rfl rfl,
  fun _ _ _ _ _ _ _ _ _ _ => sx_e_nx rfl rfl,
  fun _ _ _ _ _ _ _ _ _ => sx_e_nx rfl rfl,
  fun _ _ _ _ _ _ _ _ _ _ => sx_e_nx rfl rfl,
  fun _ _ _ _ _ _ _ _ _ _ => sx_e_bi rfl (by decide +kernel) rfl,
  fun _ _ _ _ _ _ _ _ _ _ _ => sx_e_igt rfl (by decide) rfl,
  fun _ _ _ _ _ _ _ _ _ => sx_e_nx rfl rfl,
  fun _ _ _ _ _ _ _ _ _ _ => sx_e_nx rfl rfl,
  fun _ _ _ _ _ _ _ _ _ _ _ => sx_e_nx rfl rfl,
  fun _ _ _ _ _ _ _ _ _ _ _ _ => sx_e_nx rfl rfl,
  fun _ _ _ _ _ _ _ _ _ _ _ _ _ => sx_e_nx rfl rfl,
  fun _ _ _ _ _ _ _ _ _ _ _ _ _ _ => sx_e_ca rfl rfl,
  fun _ _ _ _ => rfl,
  fun _ _ _ _ => rfl,
  fun _ _ _ _ _ _ _ _ _ _ => sx_e_nx rfl rfl,
  fun _ _ _ _ _ _ _ _ _ => sx_e_nx rfl rfl,
  fun _ _ _ _ _ _ _ _ _ _ => sx_e_nx rfl rfl,
  fun _ _ _ _ _ _ _ _ _ _ _ => sx_e_ile rfl (by decide) rfl,
  fun _ _ _ _ _ _ _ _ _ => sx_e_nx rfl rfl,
  fun _ _ _ _ _ _ _ _ _ _ => sx_e_nx rfl rfl,
  fun _ _ _ _ _ _ _ _ _ => sx_e_nx rfl rfl,
  fun _ _ _ _ _ _ _ _ _ _ => sx_e_nx rfl rfl,
  fun _ _ _ _ _ _ _ _ _ => sx_e_nx rfl rfl,
  fun _ _ _ _ _ _ _ _ _ => sx_e_goto rfl (by decide),
  fun _ _ _ _ _ _ _ _ _ => sx_e_nx rfl rfl,
  fun _ _ _ _ _ _ _ _ _ _ => sx_e_ret rfl rfl rfl⟩
/-- 13: X4_goThrough (I)V -/
theorem c13_q (S : List Int32) : ∀ (a0 : Nat) (a1 : Int32) (h : sx_H), sx_Cl S 13 [.ref a0, .int a1] h = sx_Ev S 13 0 [some (.ref a0), some (.int a1)] [] h := fun _ _ _ => rfl
theorem q13 (S : List Int32) : (∀ (l1 : Option Value) (x : Nat) (h : sx_H), sx_Ev S 13 0 [some (.ref x), l1] [] h = sx_Ev S 13 1 [some (.ref x), l1] [.ref x] h) ∧
  (∀ (l0 l1 : Option Value) (s0 : Nat) (h : sx_H), sx_Ev S 13 1 [l0, l1] [.ref s0] h = (sx_fld h s0 3 1).bind fun v => sx_Ev S 13 4 [l0, l1] [v] h) ∧
  (∀ (l1 : Option Value) (s0 : Int32) (x : Nat) (h : sx_H), sx_Ev S 13 4 [some (.ref x), l1] [.int s0] h = sx_Ev S 13 5 [some (.ref x), l1] [.ref x, .int s0] h) ∧
  (∀ (l0 l1 : Option Value) (s0 : Nat) (s1 : Int32) (h : sx_H), sx_Ev S 13 5 [l0, l1] [.ref s0, .int s1] h = (sx_fld h s0 3 0).bind fun v => sx_Ev S 13 8 [l0, l1] [v, .int s1] h) ∧
  (∀ (l0 l1 : Option Value) (s0 : Nat) (s1 : Int32) (h : sx_H), sx_Ev S 13 8 [l0, l1] [.ref s0, .int s1] h = (sx_ints S h s0).bind fun v => sx_Ev S 13 9 [l0, l1] [.int (Int32.ofNat v.length), .int s1] h) ∧
  (∀ (l0 l1 : Option Value) (s0 : Int32) (s1 : Int32) (h : sx_H), sx_Ev S 13 9 [l0, l1] [.int s0, .int s1] h = if s1 < s0 then sx_Ev S 13 12 [l0, l1] [] h else sx_Ev S 13 32 [l0, l1] [] h) ∧
  (∀ (l1 : Option Value) (x : Nat) (h : sx_H), sx_Ev S 13 12 [some (.ref x), l1] [] h = sx_Ev S 13 13 [some (.ref x), l1] [.ref x] h) ∧
  (∀ (l0 l1 : Option Value) (s0 : Nat) (h : sx_H), sx_Ev S 13 13 [l0, l1] [.ref s0] h = (sx_fld h s0 3 0).bind fun v => sx_Ev S 13 16 [l0, l1] [v] h) ∧
  (∀ (l1 : Option Value) (s0 : Nat) (x : Nat) (h : sx_H), sx_Ev S 13 16 [some (.ref x), l1] [.ref s0] h = sx_Ev S 13 17 [some (.ref x), l1] [.ref x, .ref s0] h) ∧
  (∀ (l0 l1 : Option Value) (s0 : Nat) (s1 : Nat) (h : sx_H), sx_Ev S 13 17 [l0, l1] [.ref s0, .ref s1] h = (sx_fld h s0 3 1).bind fun v => sx_Ev S 13 20 [l0, l1] [v, .ref s1] h) ∧
  (∀ (l0 : Option Value) (s0 : Int32) (s1 : Nat) (x : Int32) (h : sx_H), sx_Ev S 13 20 [l0, some (.int x)] [.int s0, .ref s1] h = sx_Ev S 13 21 [l0, some (.int x)] [.int x, .int s0, .ref s1] h) ∧
  (∀ (l0 l1 : Option Value) (s0 : Int32) (s1 : Int32) (s2 : Nat) (h : sx_H), sx_Ev S 13 21 [l0, l1] [.int s0, .int s1, .ref s2] h = (sx_wr h s2 s1 s0).bind fun h => sx_Ev S 13 22 [l0, l1] [] h) ∧
  (∀ (l1 : Option Value) (x : Nat) (h : sx_H), sx_Ev S 13 22 [some (.ref x), l1] [] h = sx_Ev S 13 23 [some (.ref x), l1] [.ref x] h) ∧
  (∀ (l0 l1 : Option Value) (s0 : Nat) (h : sx_H), sx_Ev S 13 23 [l0, l1] [.ref s0] h = sx_Ev S 13 24 [l0, l1] [.ref s0, .ref s0] h) ∧
  (∀ (l0 l1 : Option Value) (s0 : Nat) (s1 : Nat) (h : sx_H), sx_Ev S 13 24 [l0, l1] [.ref s0, .ref s1] h = (sx_fld h s0 3 1).bind fun v => sx_Ev S 13 27 [l0, l1] [v, .ref s1] h) ∧
  (∀ (l0 l1 : Option Value) (s0 : Int32) (s1 : Nat) (h : sx_H), sx_Ev S 13 27 [l0, l1] [.int s0, .ref s1] h = sx_Ev S 13 28 [l0, l1] [.int (sz (1)), .int s0, .ref s1] h) ∧
  (∀ (l0 l1 : Option Value) (s0 : Int32) (s1 : Int32) (s2 : Nat) (h : sx_H), sx_Ev S 13 28 [l0, l1] [.int s0, .int s1, .ref s2] h = sx_Ev S 13 29 [l0, l1] [.int (s1 + s0), .ref s2] h) ∧
  (∀ (l0 l1 : Option Value) (s0 : Int32) (s1 : Nat) (h : sx_H), sx_Ev S 13 29 [l0, l1] [.int s0, .ref s1] h = (sx_fst h s1 3 1 (.int s0)).bind fun h => sx_Ev S 13 32 [l0, l1] [] h) ∧
  (∀ (l0 l1 : Option Value) (h : sx_H), sx_Ev S 13 32 [l0, l1] [] h = some (.inl none, h)) := ⟨fun _ _ _ => sx_e_nx rfl rfl,
  fun _ _ _ _ => sx_e_getf rfl rfl (by decide) rfl,
  fun _ _ _ _ => sx_e_nx rfl rfl,
  fun _ _ _ _ _ => sx_e_getf rfl rfl (by decide) rfl,
  fun _ _ _ _ _ => sx_e_alen rfl rfl,
  fun _ _ _ _ _ => sx_e_ige rfl (by decide) rfl,
  fun _ _ _ => sx_e_nx rfl rfl,
  fun _ _ _ _ => sx_e_getf rfl rfl (by decide) rfl,
  fun _ _ _ _ => sx_e_nx rfl rfl,
  fun _ _ _ _ _ => sx_e_getf rfl rfl (by decide) rfl,
  fun _ _ _ _ _ => sx_e_nx rfl rfl,
  fun _ _ _ _ _ _ => sx_e_iast rfl rfl,
  fun _ _ _ => sx_e_nx rfl rfl,
  fun _ _ _ _ => sx_e_nx rfl rfl,
  fun _ _ _ _ _ => sx_e_getf rfl rfl (by decide) rfl,
  fun _ _ _ _ _ => sx_e_nx rfl rfl,
  fun _ _ _ _ _ _ => sx_e_nx rfl rfl,
  fun _ _ _ _ _ => sx_e_putf rfl rfl (by decide +kernel) ⟨rfl, rfl⟩ rfl,
  fun _ _ _ => sx_e_dn rfl rfl⟩
/-- 14: X4_goForthAndBack (II)V -/
theorem c14_q (S : List Int32) : ∀ (a0 : Nat) (a1 : Int32) (a2 : Int32) (h : sx_H), sx_Cl S 14 [.ref a0, .int a1, .int a2] h = sx_Ev S 14 0 [some (.ref a0), some (.int a1), some (.int a2), none] [] h := fun _ _ _ _ => rfl
theorem h14_2 (S : List Int32) : (∀ (l0 l1 l2 : Option Value) (x : Int32) (h : sx_H), sx_Ev S 14 2 [l0, l1, l2, some (.int x)] [] h = sx_Ev S 14 3 [l0, l1, l2, some (.int x)] [.int x] h) := fun _ _ _ _ _ => sx_e_nx rfl rfl
theorem h14_24 (S : List Int32) : (∀ (l0 l1 l2 : Option Value) (x : Int32) (h : sx_H), sx_Ev S 14 24 [l0, l1, l2, some (.int x)] [] h = sx_Ev S 14 25 [l0, l1, l2, some (.int x)] [.int x] h) := fun _ _ _ _ _ => sx_e_nx rfl rfl
theorem q14 (S : List Int32) : (∀ (l0 l1 l2 l3 : Option Value) (h : sx_H), sx_Ev S 14 0 [l0, l1, l2, l3] [] h = sx_Ev S 14 1 [l0, l1, l2, l3] [.int (sz (0))] h) ∧
  (∀ (l0 l1 l2 l3 : Option Value) (s0 : Int32) (h : sx_H), sx_Ev S 14 1 [l0, l1, l2, l3] [.int s0] h = sx_Ev S 14 2 [l0, l1, l2, some (.int s0)] [] h) ∧
  (∀ (l0 l1 l3 : Option Value) (s0 : Int32) (x : Int32) (h : sx_H), sx_Ev S 14 3 [l0, l1, some (.int x), l3] [.int s0] h = sx_Ev S 14 4 [l0, l1, some (.int x), l3] [.int x, .int s0] h) ∧
  (∀ (l0 l1 l2 l3 : Option Value) (s0 : Int32) (s1 : Int32) (h : sx_H), sx_Ev S 14 4 [l0, l1, l2, l3] [.int s0, .int s1] h = if s1 < s0 then sx_Ev S 14 7 [l0, l1, l2, l3] [] h else sx_Ev S 14 20 [l0, l1, l2, l3] [] h) ∧
  (∀ (l1 l2 l3 : Option Value) (x : Nat) (h : sx_H), sx_Ev S 14 7 [some (.ref x), l1, l2, l3] [] h = sx_Ev S 14 8 [some (.ref x), l1, l2, l3] [.ref x] h) ∧
  (∀ (l0 l2 l3 : Option Value) (s0 : Nat) (x : Int32) (h : sx_H), sx_Ev S 14 8 [l0, some (.int x), l2, l3] [.ref s0] h = sx_Ev S 14 9 [l0, some (.int x), l2, l3] [.int x, .ref s0] h) ∧
  (∀ (l0 l1 l2 : Option Value) (s0 : Int32) (s1 : Nat) (x : Int32) (h : sx_H), sx_Ev S 14 9 [l0, l1, l2, some (.int x)] [.int s0, .ref s1] h = sx_Ev S 14 10 [l0, l1, l2, some (.int x)] [.int x, .int s0, .ref s1] h) ∧
  (∀ (l0 l1 l2 l3 : Option Value) (s0 : Int32) (s1 : Int32) (s2 : Nat) (h : sx_H), sx_Ev S 14 10 [l0, l1, l2, l3] [.int s0, .int s1, .ref s2] h = sx_Ev S 14 11 [l0, l1, l2, l3] [.int (s1 + s0), .ref s2] h) ∧
  (∀ (l0 l1 l2 l3 : Option Value) (s0 : Int32) (s1 : Nat) (h : sx_H), sx_klass h s1 = some 3 → sx_Ev S 14 11 [l0, l1, l2, l3] [.int s0, .ref s1] h = sx_back S 14 11 [l0, l1, l2, l3] [] (sx_Cl S 13 [.ref s1, .int s0] h)) ∧
  (∀ (ls : sx_L) (st : List Value) (h : sx_H), sx_back S 14 11 ls st (some (.inl none, h)) = sx_Ev S 14 14 ls st h) ∧
  (∀ (ls : sx_L) (st : List Value) (e : Nat) (h : sx_H), sx_back S 14 11 ls st (some (.inr e, h)) = some (.inr e, h)) ∧
  (∀ (l0 l1 l2 : Option Value) (x : Int32) (h : sx_H), sx_Ev S 14 14 [l0, l1, l2, some (.int x)] [] h = sx_Ev S 14 17 [l0, l1, l2, some (.int (x + sz (1)))] [] h) ∧
  (∀ (l0 l1 l2 l3 : Option Value) (h : sx_H), sx_Ev S 14 17 [l0, l1, l2, l3] [] h = sx_Ev S 14 2 [l0, l1, l2, l3] [] h) ∧
  (∀ (l0 l1 l3 : Option Value) (x : Int32) (h : sx_H), sx_Ev S 14 20 [l0, l1, some (.int x), l3] [] h = sx_Ev S 14 21 [l0, l1, some (.int x), l3] [.int x] h) ∧
  (∀ (l0 l1 l2 l3 : Option Value) (s0 : Int32) (h : sx_H), sx_Ev S 14 21 [l0, l1, l2, l3] [.int s0] h = sx_Ev S 14 22 [l0, l1, l2, l3] [.int (sz (1)), .int s0] h) ∧
  (∀ (l0 l1 l2 l3 : Option Value) (s0 : Int32) (s1 : Int32) (h : sx_H), sx_Ev S 14 22 [l0, l1, l2, l3] [.int s0, .int s1] h = sx_Ev S 14 23 [l0, l1, l2, l3] [.int (s1 - s0)] h) ∧
  (∀ (l0 l1 l2 l3 : Option Value) (s0 : Int32) (h : sx_H), sx_Ev S 14 23 [l0, l1, l2, l3] [.int s0] h = sx_Ev S 14 24 [l0, l1, l2, some (.int s0)] [] h) ∧
  (∀ (l0 l1 l2 l3 : Option Value) (s0 : Int32) (h : sx_H), sx_Ev S 14 25 [l0, l1, l2, l3] [.int s0] h = if s0 < 0 then sx_Ev S 14 41 [l0, l1, l2, l3] [] h else sx_Ev S 14 28 [l0, l1, l2, l3] [] h) ∧
  (∀ (l1 l2 l3 : Option Value) (x : Nat) (h : sx_H), sx_Ev S 14 28 [some (.ref x), l1, l2, l3] [] h = sx_Ev S 14 29 [some (.ref x), l1, l2, l3] [.ref x] h) ∧
  (∀ (l0 l2 l3 : Option Value) (s0 : Nat) (x : Int32) (h : sx_H), sx_Ev S 14 29 [l0, some (.int x), l2, l3] [.ref s0] h = sx_Ev S 14 30 [l0, some (.int x), l2, l3] [.int x, .ref s0] h) ∧
  (∀ (l0 l1 l2 : Option Value) (s0 : Int32) (s1 : Nat) (x : Int32) (h : sx_H), sx_Ev S 14 30 [l0, l1, l2, some (.int x)] [.int s0, .ref s1] h = sx_Ev S 14 31 [l0, l1, l2, some (.int x)] [.int x, .int s0, .ref s1] h) ∧
  (∀ (l0 l1 l2 l3 : Option Value) (s0 : Int32) (s1 : Int32) (s2 : Nat) (h : sx_H), sx_Ev S 14 31 [l0, l1, l2, l3] [.int s0, .int s1, .ref s2] h = sx_Ev S 14 32 [l0, l1, l2, l3] [.int (s1 + s0), .ref s2] h) ∧
  (∀ (l0 l1 l2 l3 : Option Value) (s0 : Int32) (s1 : Nat) (h : sx_H), sx_klass h s1 = some 3 → sx_Ev S 14 32 [l0, l1, l2, l3] [.int s0, .ref s1] h = sx_back S 14 32 [l0, l1, l2, l3] [] (sx_Cl S 13 [.ref s1, .int s0] h)) ∧
  (∀ (ls : sx_L) (st : List Value) (h : sx_H), sx_back S 14 32 ls st (some (.inl none, h)) = sx_Ev S 14 35 ls st h) ∧
  (∀ (ls : sx_L) (st : List Value) (e : Nat) (h : sx_H), sx_back S 14 32 ls st (some (.inr e, h)) = some (.inr e, h)) ∧
  (∀ (l0 l1 l2 : Option Value) (x : Int32) (h : sx_H), sx_Ev S 14 35 [l0, l1, l2, some (.int x)] [] h = sx_Ev S 14 38 [l0, l1, l2, some (.int (x + sz (-1)))] [] h) ∧
  (∀ (l0 l1 l2 l3 : Option Value) (h : sx_H), sx_Ev S 14 38 [l0, l1, l2, l3] [] h = sx_Ev S 14 24 [l0, l1, l2, l3] [] h) ∧
  (∀ (l0 l1 l2 l3 : Option Value) (h : sx_H), sx_Ev S 14 41 [l0, l1, l2, l3] [] h = some (.inl none, h)) := ⟨fun _ _ _ _ _ => sx_e_nx rfl rfl,
  fun _ _ _ _ _ _ => sx_e_nx rfl rfl,
  fun _ _ _ _ _ _ => sx_e_nx rfl rfl,
  fun _ _ _ _ _ _ _ => sx_e_ige rfl (by decide) rfl,
  fun _ _ _ _ _ => sx_e_nx rfl rfl,
  fun _ _ _ _ _ _ => sx_e_nx rfl rfl,
  fun _ _ _ _ _ _ _ => sx_e_nx rfl rfl,
  fun _ _ _ _ _ _ _ _ => sx_e_nx rfl rfl,
  fun _ _ _ _ _ _ _ hv => sx_e_virt rfl rfl ⟨Nat.le_of_ble_eq_true rfl, Nat.le_of_ble_eq_true rfl, rfl⟩ rfl rfl rfl hv,
  fun _ _ _ => rfl,
  fun _ _ _ _ => rfl,
  fun _ _ _ _ _ => sx_e_nx rfl rfl,
  fun _ _ _ _ _ => sx_e_goto rfl (by decide),
  fun _ _ _ _ _ => sx_e_nx rfl rfl,
  fun _ _ _ _ _ _ => sx_e_nx rfl rfl,
  fun _ _ _ _ _ _ _ => sx_e_nx rfl rfl,
  fun _ _ _ _ _ _ => sx_e_nx rfl rfl,
  fun _ _ _ _ _ _ => sx_e_lt rfl (by decide) rfl,
  fun _ _ _ _ _ => sx_e_nx rfl rfl,
  fun _ _ _ _ _ _ => sx_e_nx rfl rfl,
  fun _ _ _ _ _ _ _ => sx_e_nx rfl rfl,
  fun _ _ _ _ _ _ _ _ => sx_e_nx rfl rfl,
  fun _ _ _ _ _ _ _ hv => sx_e_virt rfl rfl ⟨Nat.le_of_ble_eq_true rfl, Nat.le_of_ble_eq_true rfl, rfl⟩ rfl rfl rfl hv,
  fun _ _ _ => rfl,
  fun _ _ _ _ => rfl,
  fun _ _ _ _ _ => sx_e_nx rfl rfl,
  fun _ _ _ _ _ => sx_e_goto rfl (by decide),
  fun _ _ _ _ _ => sx_e_dn rfl rfl⟩
/-- 15: X4_goThroughEven (II)V -/
theorem c15_q (S : List Int32) : ∀ (a0 : Nat) (a1 : Int32) (a2 : Int32) (h : sx_H), sx_Cl S 15 [.ref a0, .int a1, .int a2] h = sx_Ev S 15 0 [some (.ref a0), some (.int a1), some (.int a2), none] [] h := fun _ _ _ _ => rfl
theorem h15_2 (S : List Int32) : (∀ (l0 l1 l2 : Option Value) (x : Int32) (h : sx_H), sx_Ev S 15 2 [l0, l1, l2, some (.int x)] [] h = sx_Ev S 15 3 [l0, l1, l2, some (.int x)] [.int x] h) := fun _ _ _ _ _ => sx_e_nx rfl rfl
theorem q15 (S : List Int32) : (∀ (l0 l1 l2 l3 : Option Value) (h : sx_H), sx_Ev S 15 0 [l0, l1, l2, l3] [] h = sx_Ev S 15 1 [l0, l1, l2, l3] [.int (sz (0))] h) ∧
  (∀ (l0 l1 l2 l3 : Option Value) (s0 : Int32) (h : sx_H), sx_Ev S 15 1 [l0, l1, l2, l3] [.int s0] h = sx_Ev S 15 2 [l0, l1, l2, some (.int s0)] [] h) ∧
  (∀ (l0 l1 l3 : Option Value) (s0 : Int32) (x : Int32) (h : sx_H), sx_Ev S 15 3 [l0, l1, some (.int x), l3] [.int s0] h = sx_Ev S 15 4 [l0, l1, some (.int x), l3] [.int x, .int s0] h) ∧
  (∀ (l0 l1 l2 l3 : Option Value) (s0 : Int32) (s1 : Int32) (h : sx_H), sx_Ev S 15 4 [l0, l1, l2, l3] [.int s0, .int s1] h = if s1 < s0 then sx_Ev S 15 7 [l0, l1, l2, l3] [] h else sx_Ev S 15 46 [l0, l1, l2, l3] [] h) ∧
  (∀ (l1 l2 l3 : Option Value) (x : Nat) (h : sx_H), sx_Ev S 15 7 [some (.ref x), l1, l2, l3] [] h = sx_Ev S 15 8 [some (.ref x), l1, l2, l3] [.ref x] h) ∧
  (∀ (l0 l2 l3 : Option Value) (s0 : Nat) (x : Int32) (h : sx_H), sx_Ev S 15 8 [l0, some (.int x), l2, l3] [.ref s0] h = sx_Ev S 15 9 [l0, some (.int x), l2, l3] [.int x, .ref s0] h) ∧
  (∀ (l0 l1 l3 : Option Value) (s0 : Int32) (s1 : Nat) (x : Int32) (h : sx_H), sx_Ev S 15 9 [l0, l1, some (.int x), l3] [.int s0, .ref s1] h = sx_Ev S 15 10 [l0, l1, some (.int x), l3] [.int x, .int s0, .ref s1] h) ∧
  (∀ (l0 l1 l2 l3 : Option Value) (s0 : Int32) (s1 : Int32) (s2 : Nat) (h : sx_H), sx_Ev S 15 10 [l0, l1, l2, l3] [.int s0, .int s1, .ref s2] h = sx_Ev S 15 11 [l0, l1, l2, l3] [.int (s1 * s0), .ref s2] h) ∧
  (∀ (l0 l1 l2 : Option Value) (s0 : Int32) (s1 : Nat) (x : Int32) (h : sx_H), sx_Ev S 15 11 [l0, l1, l2, some (.int x)] [.int s0, .ref s1] h = sx_Ev S 15 12 [l0, l1, l2, some (.int x)] [.int x, .int s0, .ref s1] h) ∧
  (∀ (l0 l1 l2 l3 : Option Value) (s0 : Int32) (s1 : Int32) (s2 : Nat) (h : sx_H), sx_Ev S 15 12 [l0, l1, l2, l3] [.int s0, .int s1, .ref s2] h = sx_Ev S 15 13 [l0, l1, l2, l3] [.int (s1 + s0), .ref s2] h) ∧
  (∀ (l0 l1 l2 l3 : Option Value) (s0 : Int32) (s1 : Nat) (h : sx_H), sx_klass h s1 = some 3 → sx_Ev S 15 13 [l0, l1, l2, l3] [.int s0, .ref s1] h = sx_back S 15 13 [l0, l1, l2, l3] [] (sx_Cl S 13 [.ref s1, .int s0] h)) ∧
  (∀ (ls : sx_L) (st : List Value) (h : sx_H), sx_back S 15 13 ls st (some (.inl none, h)) = sx_Ev S 15 16 ls st h) ∧
  (∀ (ls : sx_L) (st : List Value) (e : Nat) (h : sx_H), sx_back S 15 13 ls st (some (.inr e, h)) = some (.inr e, h)) ∧
  (∀ (l0 l2 l3 : Option Value) (x : Int32) (h : sx_H), sx_Ev S 15 16 [l0, some (.int x), l2, l3] [] h = sx_Ev S 15 17 [l0, some (.int x), l2, l3] [.int x] h) ∧
  (∀ (l0 l1 l2 l3 : Option Value) (s0 : Int32) (h : sx_H), sx_Ev S 15 17 [l0, l1, l2, l3] [.int s0] h = if 0 < s0 then sx_Ev S 15 20 [l0, l1, l2, l3] [] h else sx_Ev S 15 40 [l0, l1, l2, l3] [] h) ∧
  (∀ (l0 l1 l2 : Option Value) (x : Int32) (h : sx_H), sx_Ev S 15 20 [l0, l1, l2, some (.int x)] [] h = sx_Ev S 15 21 [l0, l1, l2, some (.int x)] [.int x] h) ∧
  (∀ (l0 l1 l2 l3 : Option Value) (s0 : Int32) (h : sx_H), sx_Ev S 15 21 [l0, l1, l2, l3] [.int s0] h = sx_Ev S 15 22 [l0, l1, l2, l3] [.int (sz (1)), .int s0] h) ∧
  (∀ (l0 l1 l2 l3 : Option Value) (s0 : Int32) (s1 : Int32) (h : sx_H), sx_Ev S 15 22 [l0, l1, l2, l3] [.int s0, .int s1] h = sx_Ev S 15 23 [l0, l1, l2, l3] [.int (s1 + s0)] h) ∧
  (∀ (l0 l1 l3 : Option Value) (s0 : Int32) (x : Int32) (h : sx_H), sx_Ev S 15 23 [l0, l1, some (.int x), l3] [.int s0] h = sx_Ev S 15 24 [l0, l1, some (.int x), l3] [.int x, .int s0] h) ∧
  (∀ (l0 l1 l2 l3 : Option Value) (s0 : Int32) (s1 : Int32) (h : sx_H), sx_Ev S 15 24 [l0, l1, l2, l3] [.int s0, .int s1] h = if s1 < s0 then sx_Ev S 15 27 [l0, l1, l2, l3] [] h else sx_Ev S 15 40 [l0, l1, l2, l3] [] h) ∧
  (∀ (l1 l2 l3 : Option Value) (x : Nat) (h : sx_H), sx_Ev S 15 27 [some (.ref x), l1, l2, l3] [] h = sx_Ev S 15 28 [some (.ref x), l1, l2, l3] [.ref x] h) ∧
  (∀ (l0 l2 l3 : Option Value) (s0 : Nat) (x : Int32) (h : sx_H), sx_Ev S 15 28 [l0, some (.int x), l2, l3] [.ref s0] h = sx_Ev S 15 29 [l0, some (.int x), l2, l3] [.int x, .ref s0] h) ∧
  (∀ (l0 l1 l2 l3 : Option Value) (s0 : Int32) (s1 : Nat) (h : sx_H), sx_Ev S 15 29 [l0, l1, l2, l3] [.int s0, .ref s1] h = sx_Ev S 15 30 [l0, l1, l2, l3] [.int (sz (1)), .int s0, .ref s1] h) ∧
  (∀ (l0 l1 l2 l3 : Option Value) (s0 : Int32) (s1 : Int32) (s2 : Nat) (h : sx_H), sx_Ev S 15 30 [l0, l1, l2, l3] [.int s0, .int s1, .ref s2] h = sx_Ev S 15 31 [l0, l1, l2, l3] [.int (s1 - s0), .ref s2] h) ∧
  (∀ (l0 l1 l3 : Option Value) (s0 : Int32) (s1 : Nat) (x : Int32) (h : sx_H), sx_Ev S 15 31 [l0, l1, some (.int x), l3] [.int s0, .ref s1] h = sx_Ev S 15 32 [l0, l1, some (.int x), l3] [.int x, .int s0, .ref s1] h) ∧
  (∀ (l0 l1 l2 l3 : Option Value) (s0 : Int32) (s1 : Int32) (s2 : Nat) (h : sx_H), sx_Ev S 15 32 [l0, l1, l2, l3] [.int s0, .int s1, .ref s2] h = sx_Ev S 15 33 [l0, l1, l2, l3] [.int (s1 * s0), .ref s2] h) ∧
  (∀ (l0 l1 l2 : Option Value) (s0 : Int32) (s1 : Nat) (x : Int32) (h : sx_H), sx_Ev S 15 33 [l0, l1, l2, some (.int x)] [.int s0, .ref s1] h = sx_Ev S 15 34 [l0, l1, l2, some (.int x)] [.int x, .int s0, .ref s1] h) ∧
  (∀ (l0 l1 l2 l3 : Option Value) (s0 : Int32) (s1 : Int32) (s2 : Nat) (h : sx_H), sx_Ev S 15 34 [l0, l1, l2, l3] [.int s0, .int s1, .ref s2] h = sx_Ev S 15 35 [l0, l1, l2, l3] [.int (s1 + s0), .ref s2] h) ∧
  (∀ (l0 l1 l2 l3 : Option Value) (s0 : Int32) (s1 : Nat) (h : sx_H), sx_Ev S 15 35 [l0, l1, l2, l3] [.int s0, .ref s1] h = sx_Ev S 15 36 [l0, l1, l2, l3] [.int (sz (1)), .int s0, .ref s1] h) ∧
  (∀ (l0 l1 l2 l3 : Option Value) (s0 : Int32) (s1 : Int32) (s2 : Nat) (h : sx_H), sx_Ev S 15 36 [l0, l1, l2, l3] [.int s0, .int s1, .ref s2] h = sx_Ev S 15 37 [l0, l1, l2, l3] [.int (s1 + s0), .ref s2] h) ∧
  (∀ (l0 l1 l2 l3 : Option Value) (s0 : Int32) (s1 : Nat) (h : sx_H), sx_klass h s1 = some 3 → sx_Ev S 15 37 [l0, l1, l2, l3] [.int s0, .ref s1] h = sx_back S 15 37 [l0, l1, l2, l3] [] (sx_Cl S 13 [.ref s1, .int s0] h)) ∧
  (∀ (ls : sx_L) (st : List Value) (h : sx_H), sx_back S 15 37 ls st (some (.inl none, h)) = sx_Ev S 15 40 ls st h) ∧
  (∀ (ls : sx_L) (st : List Value) (e : Nat) (h : sx_H), sx_back S 15 37 ls st (some (.inr e, h)) = some (.inr e, h)) ∧
  (∀ (l0 l1 l2 : Option Value) (x : Int32) (h : sx_H), sx_Ev S 15 40 [l0, l1, l2, some (.int x)] [] h = sx_Ev S 15 43 [l0, l1, l2, some (.int (x + sz (2)))] [] h) ∧
  (∀ (l0 l1 l2 l3 : Option Value) (h : sx_H), sx_Ev S 15 43 [l0, l1, l2, l3] [] h = sx_Ev S 15 2 [l0, l1, l2, l3] [] h) ∧
  (∀ (l0 l1 l2 l3 : Option Value) (h : sx_H), sx_Ev S 15 46 [l0, l1, l2, l3] [] h = some (.inl none, h)) := ⟨fun _ _ _ _ _ => sx_e_nx rfl rfl,
  fun _ _ _ _ _ _ => sx_e_nx rfl rfl,
  fun _ _ _ _ _ _ => sx_e_nx rfl rfl,
  fun _ _ _ _ _ _ _ => sx_e_ige rfl (by decide) rfl,
  fun _ _ _ _ _ => sx_e_nx rfl rfl,
  fun _ _ _ _ _ _ => sx_e_nx rfl rfl,
  fun _ _ _ _ _ _ _ => sx_e_nx rfl rfl,
  fun _ _ _ _ _ _ _ _ => sx_e_nx rfl rfl,
  fun _ _ _ _ _ _ _ => sx_e_nx rfl rfl,
  fun _ _ _ _ _ _ _ _ => sx_e_nx rfl rfl,
  fun _ _ _ _ _ _ _ hv => sx_e_virt rfl rfl ⟨Nat.le_of_ble_eq_true rfl, Nat.le_of_ble_eq_true rfl, rfl⟩ rfl rfl rfl hv,
  fun _ _ _ => rfl,
  fun _ _ _ _ => rfl,
  fun _ _ _ _ _ => sx_e_nx rfl rfl,
  fun _ _ _ _ _ _ => sx_e_le rfl (by decide) rfl,
  fun _ _ _ _ _ => sx_e_nx rfl rfl,
  fun _ _ _ _ _ _ => sx_e_nx rfl rfl,
  fun _ _ _ _ _ _ _ => sx_e_nx rfl rfl,
  fun _ _ _ _ _ _ => sx_e_nx rfl rfl,
  fun _ _ _ _ _ _ _ => sx_e_ige rfl (by decide) rfl,
  fun _ _ _ _ _ => sx_e_nx rfl rfl,
  fun _ _ _ _ _ _ => sx_e_nx rfl rfl,
  fun _ _ _ _ _ _ _ => sx_e_nx rfl rfl,
  fun _ _ _ _ _ _ _ _ => sx_e_nx rfl rfl,
  fun _ _ _ _ _ _ _ => sx_e_nx rfl rfl,
  fun _ _ _ _ _ _ _ _ => sx_e_nx rfl rfl,
  fun _ _ _ _ _ _ _ => sx_e_nx rfl rfl,
  fun _ _ _ _ _ _ _ _ => sx_e_nx rfl rfl,
  fun _ _ _ _ _ _ _ => sx_e_nx rfl rfl,
  fun _ _ _ _ _ _ _ _ => sx_e_nx rfl rfl,
  fun _ _ _ _ _ _ _ hv => sx_e_virt rfl rfl ⟨Nat.le_of_ble_eq_true rfl, Nat.le_of_ble_eq_true rfl, rfl⟩ rfl rfl rfl hv,
  fun _ _ _ => rfl,
  fun _ _ _ _ => rfl,
  fun _ _ _ _ _ => sx_e_nx rfl rfl,
  fun _ _ _ _ _ => sx_e_goto rfl (by decide),
  fun _ _ _ _ _ => sx_e_dn rfl rfl⟩
/-- 16: X4_goThroughOdd (II)V -/
theorem c16_q (S : List Int32) : ∀ (a0 : Nat) (a1 : Int32) (a2 : Int32) (h : sx_H), sx_Cl S 16 [.ref a0, .int a1, .int a2] h = sx_Ev S 16 0 [some (.ref a0), some (.int a1), some (.int a2), none, none] [] h := fun _ _ _ _ => rfl
theorem h16_19 (S : List Int32) : (∀ (l0 l1 l2 l3 : Option Value) (x : Int32) (h : sx_H), sx_Ev S 16 19 [l0, l1, l2, l3, some (.int x)] [] h = sx_Ev S 16 21 [l0, l1, l2, l3, some (.int x)] [.int x] h) := fun _ _ _ _ _ _ => sx_e_nx rfl rfl
theorem q16 (S : List Int32) : (∀ (l0 l1 l3 l4 : Option Value) (x : Int32) (h : sx_H), sx_Ev S 16 0 [l0, l1, some (.int x), l3, l4] [] h = sx_Ev S 16 1 [l0, l1, some (.int x), l3, l4] [.int x] h) ∧
  (∀ (l0 l1 l2 l3 l4 : Option Value) (s0 : Int32) (h : sx_H), sx_Ev S 16 1 [l0, l1, l2, l3, l4] [.int s0] h = sx_Ev S 16 2 [l0, l1, l2, l3, l4] [.int (sz (1)), .int s0] h) ∧
  (∀ (l0 l1 l2 l3 l4 : Option Value) (s0 : Int32) (s1 : Int32) (h : sx_H), sx_Ev S 16 2 [l0, l1, l2, l3, l4] [.int s0, .int s1] h = sx_Ev S 16 3 [l0, l1, l2, l3, l4] [.int (s1 &&& s0)] h) ∧
  (∀ (l0 l1 l2 l3 l4 : Option Value) (s0 : Int32) (h : sx_H), sx_Ev S 16 3 [l0, l1, l2, l3, l4] [.int s0] h = if s0 = 0 then sx_Ev S 16 6 [l0, l1, l2, l3, l4] [] h else sx_Ev S 16 12 [l0, l1, l2, l3, l4] [] h) ∧
  (∀ (l0 l1 l3 l4 : Option Value) (x : Int32) (h : sx_H), sx_Ev S 16 6 [l0, l1, some (.int x), l3, l4] [] h = sx_Ev S 16 7 [l0, l1, some (.int x), l3, l4] [.int x] h) ∧
  (∀ (l0 l1 l2 l3 l4 : Option Value) (s0 : Int32) (h : sx_H), sx_Ev S 16 7 [l0, l1, l2, l3, l4] [.int s0] h = sx_Ev S 16 8 [l0, l1, l2, l3, l4] [.int (sz (1)), .int s0] h) ∧
  (∀ (l0 l1 l2 l3 l4 : Option Value) (s0 : Int32) (s1 : Int32) (h : sx_H), sx_Ev S 16 8 [l0, l1, l2, l3, l4] [.int s0, .int s1] h = sx_Ev S 16 9 [l0, l1, l2, l3, l4] [.int (s1 - s0)] h) ∧
  (∀ (l0 l1 l2 l3 l4 : Option Value) (s0 : Int32) (h : sx_H), sx_Ev S 16 9 [l0, l1, l2, l3, l4] [.int s0] h = sx_Ev S 16 15 [l0, l1, l2, l3, l4] [.int s0] h) ∧
  (∀ (l0 l1 l3 l4 : Option Value) (x : Int32) (h : sx_H), sx_Ev S 16 12 [l0, l1, some (.int x), l3, l4] [] h = sx_Ev S 16 13 [l0, l1, some (.int x), l3, l4] [.int x] h) ∧
  (∀ (l0 l1 l2 l3 l4 : Option Value) (s0 : Int32) (h : sx_H), sx_Ev S 16 13 [l0, l1, l2, l3, l4] [.int s0] h = sx_Ev S 16 14 [l0, l1, l2, l3, l4] [.int (sz (2)), .int s0] h) ∧
  (∀ (l0 l1 l2 l3 l4 : Option Value) (s0 : Int32) (s1 : Int32) (h : sx_H), sx_Ev S 16 14 [l0, l1, l2, l3, l4] [.int s0, .int s1] h = sx_Ev S 16 15 [l0, l1, l2, l3, l4] [.int (s1 - s0)] h) ∧
  (∀ (l0 l1 l2 l3 l4 : Option Value) (s0 : Int32) (h : sx_H), sx_Ev S 16 15 [l0, l1, l2, l3, l4] [.int s0] h = sx_Ev S 16 16 [l0, l1, l2, some (.int s0), l4] [] h) ∧
  (∀ (l0 l1 l2 l4 : Option Value) (x : Int32) (h : sx_H), sx_Ev S 16 16 [l0, l1, l2, some (.int x), l4] [] h = sx_Ev S 16 17 [l0, l1, l2, some (.int x), l4] [.int x] h) ∧
  (∀ (l0 l1 l2 l3 l4 : Option Value) (s0 : Int32) (h : sx_H), sx_Ev S 16 17 [l0, l1, l2, l3, l4] [.int s0] h = sx_Ev S 16 19 [l0, l1, l2, l3, some (.int s0)] [] h) ∧
  (∀ (l0 l1 l2 l3 l4 : Option Value) (s0 : Int32) (h : sx_H), sx_Ev S 16 21 [l0, l1, l2, l3, l4] [.int s0] h = if 0 < s0 then sx_Ev S 16 24 [l0, l1, l2, l3, l4] [] h else sx_Ev S 16 48 [l0, l1, l2, l3, l4] [] h) ∧
  (∀ (l1 l2 l3 l4 : Option Value) (x : Nat) (h : sx_H), sx_Ev S 16 24 [some (.ref x), l1, l2, l3, l4] [] h = sx_Ev S 16 25 [some (.ref x), l1, l2, l3, l4] [.ref x] h) ∧
  (∀ (l0 l2 l3 l4 : Option Value) (s0 : Nat) (x : Int32) (h : sx_H), sx_Ev S 16 25 [l0, some (.int x), l2, l3, l4] [.ref s0] h = sx_Ev S 16 26 [l0, some (.int x), l2, l3, l4] [.int x, .ref s0] h) ∧
  (∀ (l0 l1 l2 l3 : Option Value) (s0 : Int32) (s1 : Nat) (x : Int32) (h : sx_H), sx_Ev S 16 26 [l0, l1, l2, l3, some (.int x)] [.int s0, .ref s1] h = sx_Ev S 16 28 [l0, l1, l2, l3, some (.int x)] [.int x, .int s0, .ref s1] h) ∧
  (∀ (l0 l1 l2 l3 l4 : Option Value) (s0 : Int32) (s1 : Int32) (s2 : Nat) (h : sx_H), sx_Ev S 16 28 [l0, l1, l2, l3, l4] [.int s0, .int s1, .ref s2] h = sx_Ev S 16 29 [l0, l1, l2, l3, l4] [.int (s1 + s0), .ref s2] h) ∧
  (∀ (l0 l1 l2 l3 l4 : Option Value) (s0 : Int32) (s1 : Nat) (h : sx_H), sx_klass h s1 = some 3 → sx_Ev S 16 29 [l0, l1, l2, l3, l4] [.int s0, .ref s1] h = sx_back S 16 29 [l0, l1, l2, l3, l4] [] (sx_Cl S 13 [.ref s1, .int s0] h)) ∧
  (∀ (ls : sx_L) (st : List Value) (h : sx_H), sx_back S 16 29 ls st (some (.inl none, h)) = sx_Ev S 16 32 ls st h) ∧
  (∀ (ls : sx_L) (st : List Value) (e : Nat) (h : sx_H), sx_back S 16 29 ls st (some (.inr e, h)) = some (.inr e, h)) ∧
  (∀ (l1 l2 l3 l4 : Option Value) (x : Nat) (h : sx_H), sx_Ev S 16 32 [some (.ref x), l1, l2, l3, l4] [] h = sx_Ev S 16 33 [some (.ref x), l1, l2, l3, l4] [.ref x] h) ∧
  (∀ (l0 l2 l3 l4 : Option Value) (s0 : Nat) (x : Int32) (h : sx_H), sx_Ev S 16 33 [l0, some (.int x), l2, l3, l4] [.ref s0] h = sx_Ev S 16 34 [l0, some (.int x), l2, l3, l4] [.int x, .ref s0] h) ∧
  (∀ (l0 l1 l2 l3 : Option Value) (s0 : Int32) (s1 : Nat) (x : Int32) (h : sx_H), sx_Ev S 16 34 [l0, l1, l2, l3, some (.int x)] [.int s0, .ref s1] h = sx_Ev S 16 36 [l0, l1, l2, l3, some (.int x)] [.int x, .int s0, .ref s1] h) ∧
  (∀ (l0 l1 l2 l3 l4 : Option Value) (s0 : Int32) (s1 : Int32) (s2 : Nat) (h : sx_H), sx_Ev S 16 36 [l0, l1, l2, l3, l4] [.int s0, .int s1, .ref s2] h = sx_Ev S 16 37 [l0, l1, l2, l3, l4] [.int (s1 + s0), .ref s2] h) ∧
  (∀ (l0 l1 l2 l3 l4 : Option Value) (s0 : Int32) (s1 : Nat) (h : sx_H), sx_Ev S 16 37 [l0, l1, l2, l3, l4] [.int s0, .ref s1] h = sx_Ev S 16 38 [l0, l1, l2, l3, l4] [.int (sz (1)), .int s0, .ref s1] h) ∧
  (∀ (l0 l1 l2 l3 l4 : Option Value) (s0 : Int32) (s1 : Int32) (s2 : Nat) (h : sx_H), sx_Ev S 16 38 [l0, l1, l2, l3, l4] [.int s0, .int s1, .ref s2] h = sx_Ev S 16 39 [l0, l1, l2, l3, l4] [.int (s1 - s0), .ref s2] h) ∧
  (∀ (l0 l1 l2 l3 l4 : Option Value) (s0 : Int32) (s1 : Nat) (h : sx_H), sx_klass h s1 = some 3 → sx_Ev S 16 39 [l0, l1, l2, l3, l4] [.int s0, .ref s1] h = sx_back S 16 39 [l0, l1, l2, l3, l4] [] (sx_Cl S 13 [.ref s1, .int s0] h)) ∧
  (∀ (ls : sx_L) (st : List Value) (h : sx_H), sx_back S 16 39 ls st (some (.inl none, h)) = sx_Ev S 16 42 ls st h) ∧
  (∀ (ls : sx_L) (st : List Value) (e : Nat) (h : sx_H), sx_back S 16 39 ls st (some (.inr e, h)) = some (.inr e, h)) ∧
  (∀ (l0 l1 l2 l3 : Option Value) (x : Int32) (h : sx_H), sx_Ev S 16 42 [l0, l1, l2, l3, some (.int x)] [] h = sx_Ev S 16 45 [l0, l1, l2, l3, some (.int (x + sz (-2)))] [] h) ∧
  (∀ (l0 l1 l2 l3 l4 : Option Value) (h : sx_H), sx_Ev S 16 45 [l0, l1, l2, l3, l4] [] h = sx_Ev S 16 19 [l0, l1, l2, l3, l4] [] h) ∧
  (∀ (l0 l1 l2 l3 l4 : Option Value) (h : sx_H), sx_Ev S 16 48 [l0, l1, l2, l3, l4] [] h = some (.inl none, h)) := ⟨fun _ _ _ _ _ _ => sx_e_nx rfl rfl,
  fun _ _ _ _ _ _ _ => sx_e_nx rfl rfl,
  fun _ _ _ _ _ _ _ _ => sx_e_nx rfl rfl,
  fun _ _ _ _ _ _ _ => sx_e_ne rfl (by decide) rfl,
  fun _ _ _ _ _ _ => sx_e_nx rfl rfl,
  fun _ _ _ _ _ _ _ => sx_e_nx rfl rfl,
  fun _ _ _ _ _ _ _ _ => sx_e_nx rfl rfl,
  fun _ _ _ _ _ _ _ => sx_e_goto rfl (by decide),
  fun _ _ _ _ _ _ => sx_e_nx rfl rfl,
  fun _ _ _ _ _ _ _ => sx_e_nx rfl rfl,
  fun _ _ _ _ _ _ _ _ => sx_e_nx rfl rfl,
  fun _ _ _ _ _ _ _ => sx_e_nx rfl rfl,
  fun _ _ _ _ _ _ => sx_e_nx rfl rfl,
  fun _ _ _ _ _ _ _ => sx_e_nx rfl rfl,
  fun _ _ _ _ _ _ _ => sx_e_le rfl (by decide) rfl,
  fun _ _ _ _ _ _ => sx_e_nx rfl rfl,
  fun _ _ _ _ _ _ _ => sx_e_nx rfl rfl,
  fun _ _ _ _ _ _ _ _ => sx_e_nx rfl rfl,
  fun _ _ _ _ _ _ _ _ _ => sx_e_nx rfl rfl,
  fun _ _ _ _ _ _ _ _ hv => sx_e_virt rfl rfl ⟨Nat.le_of_ble_eq_true rfl, Nat.le_of_ble_eq_true rfl, rfl⟩ rfl rfl rfl hv,
  fun _ _ _ => rfl,
  fun _ _ _ _ => rfl,
  fun _ _ _ _ _ _ => sx_e_nx rfl rfl,
  fun _ _ _ _ _ _ _ => sx_e_nx rfl rfl,
  fun _ _ _ _ _ _ _ _ => sx_e_nx rfl rfl,
  fun _ _ _ _ _ _ _ _ _ => sx_e_nx rfl rfl,
  fun _ _ _ _ _ _ _ _ => sx_e_nx rfl rfl,
  fun _ _ _ _ _ _ _ _ _ => sx_e_nx rfl rfl,
  fun _ _ _ _ _ _ _ _ hv => sx_e_virt rfl rfl ⟨Nat.le_of_ble_eq_true rfl, Nat.le_of_ble_eq_true rfl, rfl⟩ rfl rfl rfl hv,
  fun _ _ _ => rfl,
  fun _ _ _ _ => rfl,
  fun _ _ _ _ _ _ => sx_e_nx rfl rfl,
  fun _ _ _ _ _ _ => sx_e_goto rfl (by decide),
  fun _ _ _ _ _ _ => sx_e_dn rfl rfl⟩
/-- 17: X4_goTwiceThroughEach (II)V -/
theorem c17_q (S : List Int32) : ∀ (a0 : Nat) (a1 : Int32) (a2 : Int32) (h : sx_H), sx_Cl S 17 [.ref a0, .int a1, .int a2] h = sx_Ev S 17 0 [some (.ref a0), some (.int a1), some (.int a2), none, none] [] h := fun _ _ _ _ => rfl
theorem h17_2 (S : List Int32) : (∀ (l0 l1 l2 l4 : Option Value) (x : Int32) (h : sx_H), sx_Ev S 17 2 [l0, l1, l2, some (.int x), l4] [] h = sx_Ev S 17 3 [l0, l1, l2, some (.int x), l4] [.int x] h) := fun _ _ _ _ _ _ => sx_e_nx rfl rfl
theorem q17 (S : List Int32) : (∀ (l0 l1 l2 l3 l4 : Option Value) (h : sx_H), sx_Ev S 17 0 [l0, l1, l2, l3, l4] [] h = sx_Ev S 17 1 [l0, l1, l2, l3, l4] [.int (sz (0))] h) ∧
  (∀ (l0 l1 l2 l3 l4 : Option Value) (s0 : Int32) (h : sx_H), sx_Ev S 17 1 [l0, l1, l2, l3, l4] [.int s0] h = sx_Ev S 17 2 [l0, l1, l2, some (.int s0), l4] [] h) ∧
  (∀ (l0 l1 l3 l4 : Option Value) (s0 : Int32) (x : Int32) (h : sx_H), sx_Ev S 17 3 [l0, l1, some (.int x), l3, l4] [.int s0] h = sx_Ev S 17 4 [l0, l1, some (.int x), l3, l4] [.int x, .int s0] h) ∧
  (∀ (l0 l1 l2 l3 l4 : Option Value) (s0 : Int32) (s1 : Int32) (h : sx_H), sx_Ev S 17 4 [l0, l1, l2, l3, l4] [.int s0, .int s1] h = if s1 < s0 then sx_Ev S 17 7 [l0, l1, l2, l3, l4] [] h else sx_Ev S 17 50 [l0, l1, l2, l3, l4] [] h) ∧
  (∀ (l0 l2 l3 l4 : Option Value) (x : Int32) (h : sx_H), sx_Ev S 17 7 [l0, some (.int x), l2, l3, l4] [] h = sx_Ev S 17 8 [l0, some (.int x), l2, l3, l4] [.int x] h) ∧
  (∀ (l0 l1 l2 l3 l4 : Option Value) (s0 : Int32) (h : sx_H), sx_Ev S 17 8 [l0, l1, l2, l3, l4] [.int s0] h = sx_Ev S 17 9 [l0, l1, l2, l3, l4] [.int (sz (1)), .int s0] h) ∧
  (∀ (l0 l1 l2 l3 l4 : Option Value) (s0 : Int32) (s1 : Int32) (h : sx_H), sx_Ev S 17 9 [l0, l1, l2, l3, l4] [.int s0, .int s1] h = sx_Ev S 17 10 [l0, l1, l2, l3, l4] [.int (s1 &&& s0)] h) ∧
  (∀ (l0 l1 l2 l3 l4 : Option Value) (s0 : Int32) (h : sx_H), sx_Ev S 17 10 [l0, l1, l2, l3, l4] [.int s0] h = if s0 = 0 then sx_Ev S 17 13 [l0, l1, l2, l3, l4] [] h else sx_Ev S 17 17 [l0, l1, l2, l3, l4] [] h) ∧
  (∀ (l0 l1 l2 l4 : Option Value) (x : Int32) (h : sx_H), sx_Ev S 17 13 [l0, l1, l2, some (.int x), l4] [] h = sx_Ev S 17 14 [l0, l1, l2, some (.int x), l4] [.int x] h) ∧
  (∀ (l0 l1 l2 l3 l4 : Option Value) (s0 : Int32) (h : sx_H), sx_Ev S 17 14 [l0, l1, l2, l3, l4] [.int s0] h = sx_Ev S 17 22 [l0, l1, l2, l3, l4] [.int s0] h) ∧
  (∀ (l0 l1 l3 l4 : Option Value) (x : Int32) (h : sx_H), sx_Ev S 17 17 [l0, l1, some (.int x), l3, l4] [] h = sx_Ev S 17 18 [l0, l1, some (.int x), l3, l4] [.int x] h) ∧
  (∀ (l0 l1 l2 l3 l4 : Option Value) (s0 : Int32) (h : sx_H), sx_Ev S 17 18 [l0, l1, l2, l3, l4] [.int s0] h = sx_Ev S 17 19 [l0, l1, l2, l3, l4] [.int (sz (1)), .int s0] h) ∧
  (∀ (l0 l1 l2 l3 l4 : Option Value) (s0 : Int32) (s1 : Int32) (h : sx_H), sx_Ev S 17 19 [l0, l1, l2, l3, l4] [.int s0, .int s1] h = sx_Ev S 17 20 [l0, l1, l2, l3, l4] [.int (s1 - s0)] h) ∧
  (∀ (l0 l1 l2 l4 : Option Value) (s0 : Int32) (x : Int32) (h : sx_H), sx_Ev S 17 20 [l0, l1, l2, some (.int x), l4] [.int s0] h = sx_Ev S 17 21 [l0, l1, l2, some (.int x), l4] [.int x, .int s0] h) ∧
  (∀ (l0 l1 l2 l3 l4 : Option Value) (s0 : Int32) (s1 : Int32) (h : sx_H), sx_Ev S 17 21 [l0, l1, l2, l3, l4] [.int s0, .int s1] h = sx_Ev S 17 22 [l0, l1, l2, l3, l4] [.int (s1 - s0)] h) ∧
  (∀ (l0 l1 l2 l3 l4 : Option Value) (s0 : Int32) (h : sx_H), sx_Ev S 17 22 [l0, l1, l2, l3, l4] [.int s0] h = sx_Ev S 17 24 [l0, l1, l2, l3, some (.int s0)] [] h) ∧
  (∀ (l1 l2 l3 l4 : Option Value) (x : Nat) (h : sx_H), sx_Ev S 17 24 [some (.ref x), l1, l2, l3, l4] [] h = sx_Ev S 17 25 [some (.ref x), l1, l2, l3, l4] [.ref x] h) ∧
  (∀ (l0 l2 l3 l4 : Option Value) (s0 : Nat) (x : Int32) (h : sx_H), sx_Ev S 17 25 [l0, some (.int x), l2, l3, l4] [.ref s0] h = sx_Ev S 17 26 [l0, some (.int x), l2, l3, l4] [.int x, .ref s0] h) ∧
  (∀ (l0 l1 l3 l4 : Option Value) (s0 : Int32) (s1 : Nat) (x : Int32) (h : sx_H), sx_Ev S 17 26 [l0, l1, some (.int x), l3, l4] [.int s0, .ref s1] h = sx_Ev S 17 27 [l0, l1, some (.int x), l3, l4] [.int x, .int s0, .ref s1] h) ∧
  (∀ (l0 l1 l2 l3 l4 : Option Value) (s0 : Int32) (s1 : Int32) (s2 : Nat) (h : sx_H), sx_Ev S 17 27 [l0, l1, l2, l3, l4] [.int s0, .int s1, .ref s2] h = sx_Ev S 17 28 [l0, l1, l2, l3, l4] [.int (s1 * s0), .ref s2] h) ∧
  (∀ (l0 l1 l2 l3 : Option Value) (s0 : Int32) (s1 : Nat) (x : Int32) (h : sx_H), sx_Ev S 17 28 [l0, l1, l2, l3, some (.int x)] [.int s0, .ref s1] h = sx_Ev S 17 30 [l0, l1, l2, l3, some (.int x)] [.int x, .int s0, .ref s1] h) ∧
  (∀ (l0 l1 l2 l3 l4 : Option Value) (s0 : Int32) (s1 : Int32) (s2 : Nat) (h : sx_H), sx_Ev S 17 30 [l0, l1, l2, l3, l4] [.int s0, .int s1, .ref s2] h = sx_Ev S 17 31 [l0, l1, l2, l3, l4] [.int (s1 + s0), .ref s2] h) ∧
  (∀ (l0 l1 l2 l3 l4 : Option Value) (s0 : Int32) (s1 : Nat) (h : sx_H), sx_klass h s1 = some 3 → sx_Ev S 17 31 [l0, l1, l2, l3, l4] [.int s0, .ref s1] h = sx_back S 17 31 [l0, l1, l2, l3, l4] [] (sx_Cl S 13 [.ref s1, .int s0] h)) ∧
  (∀ (ls : sx_L) (st : List Value) (h : sx_H), sx_back S 17 31 ls st (some (.inl none, h)) = sx_Ev S 17 34 ls st h) ∧
  (∀ (ls : sx_L) (st : List Value) (e : Nat) (h : sx_H), sx_back S 17 31 ls st (some (.inr e, h)) = some (.inr e, h)) ∧
  (∀ (l1 l2 l3 l4 : Option Value) (x : Nat) (h : sx_H), sx_Ev S 17 34 [some (.ref x), l1, l2, l3, l4] [] h = sx_Ev S 17 35 [some (.ref x), l1, l2, l3, l4] [.ref x] h) ∧
  (∀ (l0 l2 l3 l4 : Option Value) (s0 : Nat) (x : Int32) (h : sx_H), sx_Ev S 17 35 [l0, some (.int x), l2, l3, l4] [.ref s0] h = sx_Ev S 17 36 [l0, some (.int x), l2, l3, l4] [.int x, .ref s0] h) ∧
  (∀ (l0 l1 l3 l4 : Option Value) (s0 : Int32) (s1 : Nat) (x : Int32) (h : sx_H), sx_Ev S 17 36 [l0, l1, some (.int x), l3, l4] [.int s0, .ref s1] h = sx_Ev S 17 37 [l0, l1, some (.int x), l3, l4] [.int x, .int s0, .ref s1] h) ∧
  (∀ (l0 l1 l2 l3 l4 : Option Value) (s0 : Int32) (s1 : Int32) (s2 : Nat) (h : sx_H), sx_Ev S 17 37 [l0, l1, l2, l3, l4] [.int s0, .int s1, .ref s2] h = sx_Ev S 17 38 [l0, l1, l2, l3, l4] [.int (s1 * s0), .ref s2] h) ∧
  (∀ (l0 l1 l2 l3 : Option Value) (s0 : Int32) (s1 : Nat) (x : Int32) (h : sx_H), sx_Ev S 17 38 [l0, l1, l2, l3, some (.int x)] [.int s0, .ref s1] h = sx_Ev S 17 40 [l0, l1, l2, l3, some (.int x)] [.int x, .int s0, .ref s1] h) ∧
  (∀ (l0 l1 l2 l3 l4 : Option Value) (s0 : Int32) (s1 : Int32) (s2 : Nat) (h : sx_H), sx_Ev S 17 40 [l0, l1, l2, l3, l4] [.int s0, .int s1, .ref s2] h = sx_Ev S 17 41 [l0, l1, l2, l3, l4] [.int (s1 + s0), .ref s2] h) ∧
  (∀ (l0 l1 l2 l3 l4 : Option Value) (s0 : Int32) (s1 : Nat) (h : sx_H), sx_klass h s1 = some 3 → sx_Ev S 17 41 [l0, l1, l2, l3, l4] [.int s0, .ref s1] h = sx_back S 17 41 [l0, l1, l2, l3, l4] [] (sx_Cl S 13 [.ref s1, .int s0] h)) ∧
  (∀ (ls : sx_L) (st : List Value) (h : sx_H), sx_back S 17 41 ls st (some (.inl none, h)) = sx_Ev S 17 44 ls st h) ∧
  (∀ (ls : sx_L) (st : List Value) (e : Nat) (h : sx_H), sx_back S 17 41 ls st (some (.inr e, h)) = some (.inr e, h)) ∧
  (∀ (l0 l1 l2 l4 : Option Value) (x : Int32) (h : sx_H), sx_Ev S 17 44 [l0, l1, l2, some (.int x), l4] [] h = sx_Ev S 17 47 [l0, l1, l2, some (.int (x + sz (1))), l4] [] h) ∧
  (∀ (l0 l1 l2 l3 l4 : Option Value) (h : sx_H), sx_Ev S 17 47 [l0, l1, l2, l3, l4] [] h = sx_Ev S 17 2 [l0, l1, l2, l3, l4] [] h) ∧
  (∀ (l0 l1 l2 l3 l4 : Option Value) (h : sx_H), sx_Ev S 17 50 [l0, l1, l2, l3, l4] [] h = some (.inl none, h)) := ⟨fun _ _ _ _ _ _ => sx_e_nx rfl rfl,
  fun _ _ _ _ _ _ _ => sx_e_nx rfl rfl,
  fun _ _ _ _ _ _ _ => sx_e_nx rfl rfl,
  fun _ _ _ _ _ _ _ _ => sx_e_ige rfl (by decide) rfl,
  fun _ _ _ _ _ _ => sx_e_nx rfl rfl,
  fun _ _ _ _ _ _ _ => sx_e_nx rfl rfl,
  fun _ _ _ _ _ _ _ _ => sx_e_nx rfl rfl,
  fun _ _ _ _ _ _ _ => sx_e_ne rfl (by decide) rfl,
  fun _ _ _ _ _ _ => sx_e_nx rfl rfl,
  fun _ _ _ _ _ _ _ => sx_e_goto rfl (by decide),
  fun _ _ _ _ _ _ => sx_e_nx rfl rfl,
  fun _ _ _ _ _ _ _ => sx_e_nx rfl rfl,
  fun _ _ _ _ _ _ _ _ => sx_e_nx rfl rfl,
  fun _ _ _ _ _ _ _ => sx_e_nx rfl rfl,
  fun _ _ _ _ _ _ _ _ => sx_e_nx rfl rfl,
  fun _ _ _ _ _ _ _ => sx_e_nx rfl rfl,
  fun _ _ _ _ _ _ => sx_e_nx rfl rfl,
  fun _ _ _ _ _ _ _ => sx_e_nx rfl rfl,
  fun _ _ _ _ _ _ _ _ => sx_e_nx rfl rfl,
  fun _ _ _ _ _ _ _ _ _ => sx_e_nx rfl rfl,
  fun _ _ _ _ _ _ _ _ => sx_e_nx rfl rfl,
  fun _ _ _ _ _ _ _ _ _ => sx_e_nx rfl rfl,
  fun _ _ _ _ _ _ _ _ hv => sx_e_virt rfl rfl ⟨Nat.le_of_ble_eq_true rfl, Nat.le_of_ble_eq_true rfl, rfl⟩ rfl rfl rfl hv,
  fun _ _ _ => rfl,
  fun _ _ _ _ => rfl,
  fun _ _ _ _ _ _ => sx_e_nx rfl rfl,
  fun _ _ _ _ _ _ _ => sx_e_nx rfl rfl,
  fun _ _ _ _ _ _ _ _ => sx_e_nx rfl rfl,
  fun _ _ _ _ _ _ _ _ _ => sx_e_nx rfl rfl,
  fun _ _ _ _ _ _ _ _ => sx_e_nx rfl rfl,
  fun _ _ _ _ _ _ _ _ _ => sx_e_nx rfl rfl,
  fun _ _ _ _ _ _ _ _ hv => sx_e_virt rfl rfl ⟨Nat.le_of_ble_eq_true rfl, Nat.le_of_ble_eq_true rfl, rfl⟩ rfl rfl rfl hv,
  fun _ _ _ => rfl,
  fun _ _ _ _ => rfl,
  fun _ _ _ _ _ _ => sx_e_nx rfl rfl,
  fun _ _ _ _ _ _ => sx_e_goto rfl (by decide),
  fun _ _ _ _ _ _ => sx_e_dn rfl rfl⟩
/-- 18: X4_init (CII)V -/
theorem c18_q (S : List Int32) : ∀ (a0 : Nat) (a1 : Int32) (a2 : Int32) (a3 : Int32) (h : sx_H), sx_Cl S 18 [.ref a0, .int a1, .int a2, .int a3] h = sx_Ev S 18 0 [some (.ref a0), some (.int a1), some (.int a2), some (.int a3), none, none] [] h := fun _ _ _ _ _ => rfl
theorem h18_31 (S : List Int32) : (∀ (l0 l1 l2 l3 l4 : Option Value) (x : Int32) (h : sx_H), sx_Ev S 18 31 [l0, l1, l2, l3, l4, some (.int x)] [] h = sx_Ev S 18 33 [l0, l1, l2, l3, l4, some (.int x)] [.int x] h) := fun _ _ _ _ _ _ _ => sx_e_nx rfl rfl
theorem q18 (S : List Int32) : (∀ (l1 l2 l3 l4 l5 : Option Value) (x : Nat) (h : sx_H), sx_Ev S 18 0 [some (.ref x), l1, l2, l3, l4, l5] [] h = sx_Ev S 18 1 [some (.ref x), l1, l2, l3, l4, l5] [.ref x] h) ∧
  (∀ (l0 l1 l2 l3 l4 l5 : Option Value) (s0 : Nat) (h : sx_H), sx_Ev S 18 1 [l0, l1, l2, l3, l4, l5] [.ref s0] h = sx_Ev S 18 4 [l0, l1, l2, l3, l4, l5] [] h) ∧
  (∀ (l0 l1 l2 l3 l4 l5 : Option Value) (h : sx_H), sx_Ev S 18 4 [l0, l1, l2, l3, l4, l5] [] h = sx_Ev S 18 5 [l0, l1, l2, l3, l4, l5] [.int (sz (2))] h) ∧
  (∀ (l0 l1 l3 l4 l5 : Option Value) (s0 : Int32) (x : Int32) (h : sx_H), sx_Ev S 18 5 [l0, l1, some (.int x), l3, l4, l5] [.int s0] h = sx_Ev S 18 6 [l0, l1, some (.int x), l3, l4, l5] [.int x, .int s0] h) ∧
  (∀ (l0 l1 l2 l3 l4 l5 : Option Value) (s0 : Int32) (s1 : Int32) (h : sx_H), sx_Ev S 18 6 [l0, l1, l2, l3, l4, l5] [.int s0, .int s1] h = sx_Ev S 18 7 [l0, l1, l2, l3, l4, l5] [.int (s1 * s0)] h) ∧
  (∀ (l0 l1 l2 l4 l5 : Option Value) (s0 : Int32) (x : Int32) (h : sx_H), sx_Ev S 18 7 [l0, l1, l2, some (.int x), l4, l5] [.int s0] h = sx_Ev S 18 8 [l0, l1, l2, some (.int x), l4, l5] [.int x, .int s0] h) ∧
  (∀ (l0 l1 l2 l3 l4 l5 : Option Value) (s0 : Int32) (s1 : Int32) (h : sx_H), sx_Ev S 18 8 [l0, l1, l2, l3, l4, l5] [.int s0, .int s1] h = sx_Ev S 18 9 [l0, l1, l2, l3, l4, l5] [.int (s1 * s0)] h) ∧
  (∀ (l0 l1 l2 l3 l4 l5 : Option Value) (s0 : Int32) (h : sx_H), sx_Ev S 18 9 [l0, l1, l2, l3, l4, l5] [.int s0] h = sx_Ev S 18 11 [l0, l1, l2, l3, some (.int s0), l5] [] h) ∧
  (∀ (l1 l2 l3 l4 l5 : Option Value) (x : Nat) (h : sx_H), sx_Ev S 18 11 [some (.ref x), l1, l2, l3, l4, l5] [] h = sx_Ev S 18 12 [some (.ref x), l1, l2, l3, l4, l5] [.ref x] h) ∧
  (∀ (l0 l1 l2 l3 l5 : Option Value) (s0 : Nat) (x : Int32) (h : sx_H), sx_Ev S 18 12 [l0, l1, l2, l3, some (.int x), l5] [.ref s0] h = sx_Ev S 18 14 [l0, l1, l2, l3, some (.int x), l5] [.int x, .ref s0] h) ∧
  (∀ (l0 l1 l2 l3 l4 l5 : Option Value) (s0 : Int32) (s1 : Nat) (h : sx_H), sx_Ev S 18 14 [l0, l1, l2, l3, l4, l5] [.int s0, .ref s1] h = if 0 < s0 then sx_Ev S 18 17 [l0, l1, l2, l3, l4, l5] [.ref s1] h else sx_Ev S 18 22 [l0, l1, l2, l3, l4, l5] [.ref s1] h) ∧
  (∀ (l0 l1 l2 l3 l5 : Option Value) (s0 : Nat) (x : Int32) (h : sx_H), sx_Ev S 18 17 [l0, l1, l2, l3, some (.int x), l5] [.ref s0] h = sx_Ev S 18 19 [l0, l1, l2, l3, some (.int x), l5] [.int x, .ref s0] h) ∧
  (∀ (l0 l1 l2 l3 l4 l5 : Option Value) (s0 : Int32) (s1 : Nat) (h : sx_H), sx_Ev S 18 19 [l0, l1, l2, l3, l4, l5] [.int s0, .ref s1] h = sx_Ev S 18 23 [l0, l1, l2, l3, l4, l5] [.int s0, .ref s1] h) ∧
  (∀ (l0 l1 l2 l3 l4 l5 : Option Value) (s0 : Nat) (h : sx_H), sx_Ev S 18 22 [l0, l1, l2, l3, l4, l5] [.ref s0] h = sx_Ev S 18 23 [l0, l1, l2, l3, l4, l5] [.int (sz (0)), .ref s0] h) ∧
  (∀ (l0 l1 l2 l3 l4 l5 : Option Value) (s0 : Int32) (s1 : Nat) (h : sx_H), sx_Ev S 18 23 [l0, l1, l2, l3, l4, l5] [.int s0, .ref s1] h = if s0 < 0 ∨ 65536 < s0.toNatClampNeg then none else sx_Ev S 18 25 [l0, l1, l2, l3, l4, l5] [.ref (sx_new h), .ref s1] (sx_push h (some (.inl (List.replicate s0.toNatClampNeg 0))) s0.toNatClampNeg)) ∧
  (∀ (l0 l1 l2 l3 l4 l5 : Option Value) (s0 : Nat) (s1 : Nat) (h : sx_H), sx_Ev S 18 25 [l0, l1, l2, l3, l4, l5] [.ref s0, .ref s1] h = (sx_fst h s1 3 0 (.ref s0)).bind fun h => sx_Ev S 18 28 [l0, l1, l2, l3, l4, l5] [] h) ∧
  (∀ (l0 l1 l2 l3 l4 l5 : Option Value) (h : sx_H), sx_Ev S 18 28 [l0, l1, l2, l3, l4, l5] [] h = sx_Ev S 18 29 [l0, l1, l2, l3, l4, l5] [.int (sz (0))] h) ∧
  (∀ (l0 l1 l2 l3 l4 l5 : Option Value) (s0 : Int32) (h : sx_H), sx_Ev S 18 29 [l0, l1, l2, l3, l4, l5] [.int s0] h = sx_Ev S 18 31 [l0, l1, l2, l3, l4, some (.int s0)] [] h) ∧
  (∀ (l0 l1 l2 l4 l5 : Option Value) (s0 : Int32) (x : Int32) (h : sx_H), sx_Ev S 18 33 [l0, l1, l2, some (.int x), l4, l5] [.int s0] h = sx_Ev S 18 34 [l0, l1, l2, some (.int x), l4, l5] [.int x, .int s0] h) ∧
  (∀ (l0 l1 l2 l3 l4 l5 : Option Value) (s0 : Int32) (s1 : Int32) (h : sx_H), sx_Ev S 18 34 [l0, l1, l2, l3, l4, l5] [.int s0, .int s1] h = if s1 < s0 then sx_Ev S 18 37 [l0, l1, l2, l3, l4, l5] [] h else sx_Ev S 18 93 [l0, l1, l2, l3, l4, l5] [] h) ∧
  (∀ (l0 l2 l3 l4 l5 : Option Value) (x : Int32) (h : sx_H), sx_Ev S 18 37 [l0, some (.int x), l2, l3, l4, l5] [] h = sx_Ev S 18 38 [l0, some (.int x), l2, l3, l4, l5] [.int x] h) ∧
  (∀ (l0 l1 l2 l3 l4 l5 : Option Value) (s0 : Int32) (h : sx_H), sx_Ev S 18 38 [l0, l1, l2, l3, l4, l5] [.int s0] h = sx_Ev S 18 40 [l0, l1, l2, l3, l4, l5] [.int (sz (108)), .int s0] h) ∧
  (∀ (l0 l1 l2 l3 l4 l5 : Option Value) (s0 : Int32) (s1 : Int32) (h : sx_H), sx_Ev S 18 40 [l0, l1, l2, l3, l4, l5] [.int s0, .int s1] h = if s1 = s0 then sx_Ev S 18 43 [l0, l1, l2, l3, l4, l5] [] h else sx_Ev S 18 55 [l0, l1, l2, l3, l4, l5] [] h) ∧
  (∀ (l1 l2 l3 l4 l5 : Option Value) (x : Nat) (h : sx_H), sx_Ev S 18 43 [some (.ref x), l1, l2, l3, l4, l5] [] h = sx_Ev S 18 44 [some (.ref x), l1, l2, l3, l4, l5] [.ref x] h) ∧
  (∀ (l0 l1 l2 l3 l4 : Option Value) (s0 : Nat) (x : Int32) (h : sx_H), sx_Ev S 18 44 [l0, l1, l2, l3, l4, some (.int x)] [.ref s0] h = sx_Ev S 18 46 [l0, l1, l2, l3, l4, some (.int x)] [.int x, .ref s0] h) ∧
  (∀ (l0 l1 l3 l4 l5 : Option Value) (s0 : Int32) (s1 : Nat) (x : Int32) (h : sx_H), sx_Ev S 18 46 [l0, l1, some (.int x), l3, l4, l5] [.int s0, .ref s1] h = sx_Ev S 18 47 [l0, l1, some (.int x), l3, l4, l5] [.int x, .int s0, .ref s1] h) ∧
  (∀ (l0 l1 l2 l3 l4 l5 : Option Value) (s0 : Int32) (s1 : Int32) (s2 : Nat) (h : sx_H), sx_Ev S 18 47 [l0, l1, l2, l3, l4, l5] [.int s0, .int s1, .ref s2] h = sx_Ev S 18 48 [l0, l1, l2, l3, l4, l5] [.int (s1 * s0), .ref s2] h) ∧
  (∀ (l0 l1 l3 l4 l5 : Option Value) (s0 : Int32) (s1 : Nat) (x : Int32) (h : sx_H), sx_Ev S 18 48 [l0, l1, some (.int x), l3, l4, l5] [.int s0, .ref s1] h = sx_Ev S 18 49 [l0, l1, some (.int x), l3, l4, l5] [.int x, .int s0, .ref s1] h) ∧
  (∀ (l0 l1 l2 l3 l4 l5 : Option Value) (s0 : Int32) (s1 : Int32) (s2 : Nat) (h : sx_H), sx_klass h s2 = some 3 → sx_Ev S 18 49 [l0, l1, l2, l3, l4, l5] [.int s0, .int s1, .ref s2] h = sx_back S 18 49 [l0, l1, l2, l3, l4, l5] [] (sx_Cl S 14 [.ref s2, .int s1, .int s0] h)) ∧
  (∀ (ls : sx_L) (st : List Value) (h : sx_H), sx_back S 18 49 ls st (some (.inl none, h)) = sx_Ev S 18 52 ls st h) ∧
  (∀ (ls : sx_L) (st : List Value) (e : Nat) (h : sx_H), sx_back S 18 49 ls st (some (.inr e, h)) = some (.inr e, h)) ∧
  (∀ (l0 l1 l2 l3 l4 l5 : Option Value) (h : sx_H), sx_Ev S 18 52 [l0, l1, l2, l3, l4, l5] [] h = sx_Ev S 18 87 [l0, l1, l2, l3, l4, l5] [] h) ∧
  (∀ (l0 l2 l3 l4 l5 : Option Value) (x : Int32) (h : sx_H), sx_Ev S 18 55 [l0, some (.int x), l2, l3, l4, l5] [] h = sx_Ev S 18 56 [l0, some (.int x), l2, l3, l4, l5] [.int x] h) ∧
  (∀ (l0 l1 l2 l3 l4 l5 : Option Value) (s0 : Int32) (h : sx_H), sx_Ev S 18 56 [l0, l1, l2, l3, l4, l5] [.int s0] h = sx_Ev S 18 58 [l0, l1, l2, l3, l4, l5] [.int (sz (112)), .int s0] h) ∧
  (∀ (l0 l1 l2 l3 l4 l5 : Option Value) (s0 : Int32) (s1 : Int32) (h : sx_H), sx_Ev S 18 58 [l0, l1, l2, l3, l4, l5] [.int s0, .int s1] h = if s1 = s0 then sx_Ev S 18 61 [l0, l1, l2, l3, l4, l5] [] h else sx_Ev S 18 80 [l0, l1, l2, l3, l4, l5] [] h) ∧
  (∀ (l1 l2 l3 l4 l5 : Option Value) (x : Nat) (h : sx_H), sx_Ev S 18 61 [some (.ref x), l1, l2, l3, l4, l5] [] h = sx_Ev S 18 62 [some (.ref x), l1, l2, l3, l4, l5] [.ref x] h) ∧
  (∀ (l0 l1 l2 l3 l4 : Option Value) (s0 : Nat) (x : Int32) (h : sx_H), sx_Ev S 18 62 [l0, l1, l2, l3, l4, some (.int x)] [.ref s0] h = sx_Ev S 18 64 [l0, l1, l2, l3, l4, some (.int x)] [.int x, .ref s0] h) ∧
  (∀ (l0 l1 l3 l4 l5 : Option Value) (s0 : Int32) (s1 : Nat) (x : Int32) (h : sx_H), sx_Ev S 18 64 [l0, l1, some (.int x), l3, l4, l5] [.int s0, .ref s1] h = sx_Ev S 18 65 [l0, l1, some (.int x), l3, l4, l5] [.int x, .int s0, .ref s1] h) ∧
  (∀ (l0 l1 l2 l3 l4 l5 : Option Value) (s0 : Int32) (s1 : Int32) (s2 : Nat) (h : sx_H), sx_klass h s2 = some 3 → sx_Ev S 18 65 [l0, l1, l2, l3, l4, l5] [.int s0, .int s1, .ref s2] h = sx_back S 18 65 [l0, l1, l2, l3, l4, l5] [] (sx_Cl S 15 [.ref s2, .int s1, .int s0] h)) ∧
  (∀ (ls : sx_L) (st : List Value) (h : sx_H), sx_back S 18 65 ls st (some (.inl none, h)) = sx_Ev S 18 68 ls st h) ∧
  (∀ (ls : sx_L) (st : List Value) (e : Nat) (h : sx_H), sx_back S 18 65 ls st (some (.inr e, h)) = some (.inr e, h)) ∧
  (∀ (l1 l2 l3 l4 l5 : Option Value) (x : Nat) (h : sx_H), sx_Ev S 18 68 [some (.ref x), l1, l2, l3, l4, l5] [] h = sx_Ev S 18 69 [some (.ref x), l1, l2, l3, l4, l5] [.ref x] h) ∧
  (∀ (l0 l1 l2 l3 l4 : Option Value) (s0 : Nat) (x : Int32) (h : sx_H), sx_Ev S 18 69 [l0, l1, l2, l3, l4, some (.int x)] [.ref s0] h = sx_Ev S 18 71 [l0, l1, l2, l3, l4, some (.int x)] [.int x, .ref s0] h) ∧
  (∀ (l0 l1 l3 l4 l5 : Option Value) (s0 : Int32) (s1 : Nat) (x : Int32) (h : sx_H), sx_Ev S 18 71 [l0, l1, some (.int x), l3, l4, l5] [.int s0, .ref s1] h = sx_Ev S 18 72 [l0, l1, some (.int x), l3, l4, l5] [.int x, .int s0, .ref s1] h) ∧
  (∀ (l0 l1 l2 l3 l4 l5 : Option Value) (s0 : Int32) (s1 : Int32) (s2 : Nat) (h : sx_H), sx_Ev S 18 72 [l0, l1, l2, l3, l4, l5] [.int s0, .int s1, .ref s2] h = sx_Ev S 18 73 [l0, l1, l2, l3, l4, l5] [.int (s1 * s0), .ref s2] h) ∧
  (∀ (l0 l1 l3 l4 l5 : Option Value) (s0 : Int32) (s1 : Nat) (x : Int32) (h : sx_H), sx_Ev S 18 73 [l0, l1, some (.int x), l3, l4, l5] [.int s0, .ref s1] h = sx_Ev S 18 74 [l0, l1, some (.int x), l3, l4, l5] [.int x, .int s0, .ref s1] h) ∧
  (∀ (l0 l1 l2 l3 l4 l5 : Option Value) (s0 : Int32) (s1 : Int32) (s2 : Nat) (h : sx_H), sx_klass h s2 = some 3 → sx_Ev S 18 74 [l0, l1, l2, l3, l4, l5] [.int s0, .int s1, .ref s2] h = sx_back S 18 74 [l0, l1, l2, l3, l4, l5] [] (sx_Cl S 16 [.ref s2, .int s1, .int s0] h)) ∧
  (∀ (ls : sx_L) (st : List Value) (h : sx_H), sx_back S 18 74 ls st (some (.inl none, h)) = sx_Ev S 18 77 ls st h) ∧
  (∀ (ls : sx_L) (st : List Value) (e : Nat) (h : sx_H), sx_back S 18 74 ls st (some (.inr e, h)) = some (.inr e, h)) ∧
  (∀ (l0 l1 l2 l3 l4 l5 : Option Value) (h : sx_H), sx_Ev S 18 77 [l0, l1, l2, l3, l4, l5] [] h = sx_Ev S 18 87 [l0, l1, l2, l3, l4, l5] [] h) ∧
  (∀ (l1 l2 l3 l4 l5 : Option Value) (x : Nat) (h : sx_H), sx_Ev S 18 80 [some (.ref x), l1, l2, l3, l4, l5] [] h = sx_Ev S 18 81 [some (.ref x), l1, l2, l3, l4, l5] [.ref x] h) ∧
  (∀ (l0 l1 l2 l3 l4 : Option Value) (s0 : Nat) (x : Int32) (h : sx_H), sx_Ev S 18 81 [l0, l1, l2, l3, l4, some (.int x)] [.ref s0] h = sx_Ev S 18 83 [l0, l1, l2, l3, l4, some (.int x)] [.int x, .ref s0] h) ∧
  (∀ (l0 l1 l3 l4 l5 : Option Value) (s0 : Int32) (s1 : Nat) (x : Int32) (h : sx_H), sx_Ev S 18 83 [l0, l1, some (.int x), l3, l4, l5] [.int s0, .ref s1] h = sx_Ev S 18 84 [l0, l1, some (.int x), l3, l4, l5] [.int x, .int s0, .ref s1] h) ∧
  (∀ (l0 l1 l2 l3 l4 l5 : Option Value) (s0 : Int32) (s1 : Int32) (s2 : Nat) (h : sx_H), sx_klass h s2 = some 3 → sx_Ev S 18 84 [l0, l1, l2, l3, l4, l5] [.int s0, .int s1, .ref s2] h = sx_back S 18 84 [l0, l1, l2, l3, l4, l5] [] (sx_Cl S 17 [.ref s2, .int s1, .int s0] h)) ∧
  (∀ (ls : sx_L) (st : List Value) (h : sx_H), sx_back S 18 84 ls st (some (.inl none, h)) = sx_Ev S 18 87 ls st h) ∧
  (∀ (ls : sx_L) (st : List Value) (e : Nat) (h : sx_H), sx_back S 18 84 ls st (some (.inr e, h)) = some (.inr e, h)) ∧
  (∀ (l0 l1 l2 l3 l4 : Option Value) (x : Int32) (h : sx_H), sx_Ev S 18 87 [l0, l1, l2, l3, l4, some (.int x)] [] h = sx_Ev S 18 90 [l0, l1, l2, l3, l4, some (.int (x + sz (1)))] [] h) ∧
  (∀ (l0 l1 l2 l3 l4 l5 : Option Value) (h : sx_H), sx_Ev S 18 90 [l0, l1, l2, l3, l4, l5] [] h = sx_Ev S 18 31 [l0, l1, l2, l3, l4, l5] [] h) ∧
  (∀ (l0 l1 l2 l3 l4 l5 : Option Value) (h : sx_H), sx_Ev S 18 93 [l0, l1, l2, l3, l4, l5] [] h = some (.inl none, h)) := ⟨fun _ _ _ _ _ _ _ => sx_e_nx rfl rfl,
  fun _ _ _ _ _ _ _ _ => sx_e_nx rfl rfl,
  fun _ _ _ _ _ _ _ => sx_e_nx rfl rfl,
  fun _ _ _ _ _ _ _ _ => sx_e_nx rfl rfl,
  fun _ _ _ _ _ _ _ _ _ => sx_e_nx rfl rfl,
  fun _ _ _ _ _ _ _ _ => sx_e_nx rfl rfl,
  fun _ _ _ _ _ _ _ _ _ => sx_e_nx rfl rfl,
  fun _ _ _ _ _ _ _ _ => sx_e_nx rfl rfl,
  fun _ _ _ _ _ _ _ => sx_e_nx rfl rfl,
  fun _ _ _ _ _ _ _ _ => sx_e_nx rfl rfl,
  fun _ _ _ _ _ _ _ _ _ => sx_e_le rfl (by decide) rfl,
  fun _ _ _ _ _ _ _ _ => sx_e_nx rfl rfl,
  fun _ _ _ _ _ _ _ _ _ => sx_e_goto rfl (by decide),
  fun _ _ _ _ _ _ _ _ => sx_e_nx rfl rfl,
  fun _ _ _ _ _ _ _ _ _ => sx_e_newa rfl rfl,
  fun _ _ _ _ _ _ _ _ _ => sx_e_putf rfl rfl (by decide +kernel) ⟨rfl, rfl⟩ rfl,
  fun _ _ _ _ _ _ _ => sx_e_nx rfl rfl,
  fun _ _ _ _ _ _ _ _ => sx_e_nx rfl rfl,
  fun _ _ _ _ _ _ _ _ => sx_e_nx rfl rfl,
  fun _ _ _ _ _ _ _ _ _ => sx_e_ige rfl (by decide) rfl,
  fun _ _ _ _ _ _ _ => sx_e_nx rfl rfl,
  fun _ _ _ _ _ _ _ _ => sx_e_bi rfl (by decide +kernel) rfl,
  fun _ _ _ _ _ _ _ _ _ => sx_e_ine rfl (by decide) rfl,
  fun _ _ _ _ _ _ _ => sx_e_nx rfl rfl,
  fun _ _ _ _ _ _ _ _ => sx_e_nx rfl rfl,
  fun _ _ _ _ _ _ _ _ _ => sx_e_nx rfl rfl,
  fun _ _ _ _ _ _ _ _ _ _ => sx_e_nx rfl rfl,
  fun _ _ _ _ _ _ _ _ _ => sx_e_nx rfl rfl,
  fun _ _ _ _ _ _ _ _ _ _ hv => sx_e_virt rfl rfl ⟨Nat.le_of_ble_eq_true rfl, Nat.le_of_ble_eq_true rfl, rfl⟩ rfl rfl rfl hv,
  fun _ _ _ => rfl,
  fun _ _ _ _ => rfl,
  fun _ _ _ _ _ _ _ => sx_e_goto rfl (by decide),
  fun _ _ _ _ _ _ _ => sx_e_nx rfl rfl,
  fun _ _ _ _ _ _ _ _ => sx_e_bi rfl (by decide +kernel) rfl,
  fun _ _ _ _ _ _ _ _ _ => sx_e_ine rfl (by decide) rfl,
  fun _ _ _ _ _ _ _ => sx_e_nx rfl rfl,
  fun _ _ _ _ _ _ _ _ => sx_e_nx rfl rfl,
  fun _ _ _ _ _ _ _ _ _ => sx_e_nx rfl rfl,
  fun _ _ _ _ _ _ _ _ _ _ hv => sx_e_virt rfl rfl ⟨Nat.le_of_ble_eq_true rfl, Nat.le_of_ble_eq_true rfl, rfl⟩ rfl rfl rfl hv,
  fun _ _ _ => rfl,
  fun _ _ _ _ => rfl,
  fun _ _ _ _ _ _ _ => sx_e_nx rfl rfl,
  fun _ _ _ _ _ _ _ _ => sx_e_nx rfl rfl,
  fun _ _ _ _ _ _ _ _ _ => sx_e_nx rfl rfl,
  fun _ _ _ _ _ _ _ _ _ _ => sx_e_nx rfl rfl,
  fun _ _ _ _ _ _ _ _ _ => sx_e_nx rfl rfl,
  fun _ _ _ _ _ _ _ _ _ _ hv => sx_e_virt rfl rfl ⟨Nat.le_of_ble_eq_true rfl, Nat.le_of_ble_eq_true rfl, rfl⟩ rfl rfl rfl hv,
  fun _ _ _ => rfl,
  fun _ _ _ _ => rfl,
  fun _ _ _ _ _ _ _ => sx_e_goto rfl (by decide),
  fun _ _ _ _ _ _ _ => sx_e_nx rfl rfl,
  fun _ _ _ _ _ _ _ _ => sx_e_nx rfl rfl,
  fun _ _ _ _ _ _ _ _ _ => sx_e_nx rfl rfl,
  fun _ _ _ _ _ _ _ _ _ _ hv => sx_e_virt rfl rfl ⟨Nat.le_of_ble_eq_true rfl, Nat.le_of_ble_eq_true rfl, rfl⟩ rfl rfl rfl hv,
  fun _ _ _ => rfl,
  fun _ _ _ _ => rfl,
  fun _ _ _ _ _ _ _ => sx_e_nx rfl rfl,
  fun _ _ _ _ _ _ _ => sx_e_goto rfl (by decide),
  fun _ _ _ _ _ _ _ => sx_e_dn rfl rfl⟩
/-- 19: X4_length ()I -/
theorem c19_q (S : List Int32) : ∀ (a0 : Nat) (h : sx_H), sx_Cl S 19 [.ref a0] h = sx_Ev S 19 0 [some (.ref a0)] [] h := fun _ _ => rfl
theorem q19 (S : List Int32) : (∀ (x : Nat) (h : sx_H), sx_Ev S 19 0 [some (.ref x)] [] h = sx_Ev S 19 1 [some (.ref x)] [.ref x] h) ∧
  (∀ (l0 : Option Value) (s0 : Nat) (h : sx_H), sx_Ev S 19 1 [l0] [.ref s0] h = (sx_fld h s0 3 1).bind fun v => sx_Ev S 19 4 [l0] [v] h) ∧
  (∀ (l0 : Option Value) (s0 : Int32) (h : sx_H), sx_Ev S 19 4 [l0] [.int s0] h = some (.inl (some (.int s0)), h)) := ⟨fun _ _ => sx_e_nx rfl rfl,
  fun _ _ _ => sx_e_getf rfl rfl (by decide) rfl,
  fun _ _ _ => sx_e_ret rfl rfl rfl⟩
/-- 20: X4_cellAt (I)I -/
theorem c20_q (S : List Int32) : ∀ (a0 : Nat) (a1 : Int32) (h : sx_H), sx_Cl S 20 [.ref a0, .int a1] h = sx_Ev S 20 0 [some (.ref a0), some (.int a1)] [] h := fun _ _ _ => rfl
theorem q20 (S : List Int32) : (∀ (l0 : Option Value) (x : Int32) (h : sx_H), sx_Ev S 20 0 [l0, some (.int x)] [] h = sx_Ev S 20 1 [l0, some (.int x)] [.int x] h) ∧
  (∀ (l0 l1 : Option Value) (s0 : Int32) (h : sx_H), sx_Ev S 20 1 [l0, l1] [.int s0] h = if s0 < 0 then sx_Ev S 20 30 [l0, l1] [] h else sx_Ev S 20 4 [l0, l1] [] h) ∧
  (∀ (l0 : Option Value) (x : Int32) (h : sx_H), sx_Ev S 20 4 [l0, some (.int x)] [] h = sx_Ev S 20 5 [l0, some (.int x)] [.int x] h) ∧
  (∀ (l1 : Option Value) (s0 : Int32) (x : Nat) (h : sx_H), sx_Ev S 20 5 [some (.ref x), l1] [.int s0] h = sx_Ev S 20 6 [some (.ref x), l1] [.ref x, .int s0] h) ∧
  (∀ (l0 l1 : Option Value) (s0 : Nat) (s1 : Int32) (h : sx_H), sx_Ev S 20 6 [l0, l1] [.ref s0, .int s1] h = (sx_fld h s0 3 1).bind fun v => sx_Ev S 20 9 [l0, l1] [v, .int s1] h) ∧
  (∀ (l0 l1 : Option Value) (s0 : Int32) (s1 : Int32) (h : sx_H), sx_Ev S 20 9 [l0, l1] [.int s0, .int s1] h = if s1 < s0 then sx_Ev S 20 12 [l0, l1] [] h else sx_Ev S 20 30 [l0, l1] [] h) ∧
  (∀ (l0 : Option Value) (x : Int32) (h : sx_H), sx_Ev S 20 12 [l0, some (.int x)] [] h = sx_Ev S 20 13 [l0, some (.int x)] [.int x] h) ∧
  (∀ (l1 : Option Value) (s0 : Int32) (x : Nat) (h : sx_H), sx_Ev S 20 13 [some (.ref x), l1] [.int s0] h = sx_Ev S 20 14 [some (.ref x), l1] [.ref x, .int s0] h) ∧
  (∀ (l0 l1 : Option Value) (s0 : Nat) (s1 : Int32) (h : sx_H), sx_Ev S 20 14 [l0, l1] [.ref s0, .int s1] h = (sx_fld h s0 3 0).bind fun v => sx_Ev S 20 17 [l0, l1] [v, .int s1] h) ∧
  (∀ (l0 l1 : Option Value) (s0 : Nat) (s1 : Int32) (h : sx_H), sx_Ev S 20 17 [l0, l1] [.ref s0, .int s1] h = (sx_ints S h s0).bind fun v => sx_Ev S 20 18 [l0, l1] [.int (Int32.ofNat v.length), .int s1] h) ∧
  (∀ (l0 l1 : Option Value) (s0 : Int32) (s1 : Int32) (h : sx_H), sx_Ev S 20 18 [l0, l1] [.int s0, .int s1] h = if s1 < s0 then sx_Ev S 20 21 [l0, l1] [] h else sx_Ev S 20 30 [l0, l1] [] h) ∧
  (∀ (l1 : Option Value) (x : Nat) (h : sx_H), sx_Ev S 20 21 [some (.ref x), l1] [] h = sx_Ev S 20 22 [some (.ref x), l1] [.ref x] h) ∧
  (∀ (l0 l1 : Option Value) (s0 : Nat) (h : sx_H), sx_Ev S 20 22 [l0, l1] [.ref s0] h = (sx_fld h s0 3 0).bind fun v => sx_Ev S 20 25 [l0, l1] [v] h) ∧
  (∀ (l0 : Option Value) (s0 : Nat) (x : Int32) (h : sx_H), sx_Ev S 20 25 [l0, some (.int x)] [.ref s0] h = sx_Ev S 20 26 [l0, some (.int x)] [.int x, .ref s0] h) ∧
  (∀ (l0 l1 : Option Value) (s0 : Int32) (s1 : Nat) (h : sx_H), sx_Ev S 20 26 [l0, l1] [.int s0, .ref s1] h = (sx_rd S h s1 s0).bind fun v => sx_Ev S 20 27 [l0, l1] [.int v] h) ∧
  (∀ (l0 l1 : Option Value) (s0 : Int32) (h : sx_H), sx_Ev S 20 27 [l0, l1] [.int s0] h = sx_Ev S 20 31 [l0, l1] [.int s0] h) ∧
  (∀ (l0 l1 : Option Value) (h : sx_H), sx_Ev S 20 30 [l0, l1] [] h = sx_Ev S 20 31 [l0, l1] [.int (sz (-1))] h) ∧
  (∀ (l0 l1 : Option Value) (s0 : Int32) (h : sx_H), sx_Ev S 20 31 [l0, l1] [.int s0] h = some (.inl (some (.int s0)), h)) := ⟨fun _ _ _ => sx_e_nx rfl rfl,
  fun _ _ _ _ => sx_e_lt rfl (by decide) rfl,
  fun _ _ _ => sx_e_nx rfl rfl,
  fun _ _ _ _ => sx_e_nx rfl rfl,
  fun _ _ _ _ _ => sx_e_getf rfl rfl (by decide) rfl,
  fun _ _ _ _ _ => sx_e_ige rfl (by decide) rfl,
  fun _ _ _ => sx_e_nx rfl rfl,
  fun _ _ _ _ => sx_e_nx rfl rfl,
  fun _ _ _ _ _ => sx_e_getf rfl rfl (by decide) rfl,
  fun _ _ _ _ _ => sx_e_alen rfl rfl,
  fun _ _ _ _ _ => sx_e_ige rfl (by decide) rfl,
  fun _ _ _ => sx_e_nx rfl rfl,
  fun _ _ _ _ => sx_e_getf rfl rfl (by decide) rfl,
  fun _ _ _ _ => sx_e_nx rfl rfl,
  fun _ _ _ _ _ => sx_e_iald rfl rfl,
  fun _ _ _ _ => sx_e_goto rfl (by decide),
  fun _ _ _ => sx_e_nx rfl rfl,
  fun _ _ _ _ => sx_e_ret rfl rfl rfl⟩
/-- 21: X1_passesOf (I)I -/
theorem c21_q (S : List Int32) : ∀ (a0 : Nat) (a1 : Int32) (h : sx_H), sx_Cl S 21 [.ref a0, .int a1] h = sx_Ev S 21 0 [some (.ref a0), some (.int a1)] [] h := fun _ _ _ => rfl
theorem q21 (S : List Int32) : (∀ (l0 : Option Value) (x : Int32) (h : sx_H), sx_Ev S 21 0 [l0, some (.int x)] [] h = sx_Ev S 21 1 [l0, some (.int x)] [.int x] h) ∧
  (∀ (l0 l1 : Option Value) (s0 : Int32) (h : sx_H), sx_Ev S 21 1 [l0, l1] [.int s0] h = if s0 < 0 then sx_Ev S 21 22 [l0, l1] [] h else sx_Ev S 21 4 [l0, l1] [] h) ∧
  (∀ (l0 : Option Value) (x : Int32) (h : sx_H), sx_Ev S 21 4 [l0, some (.int x)] [] h = sx_Ev S 21 5 [l0, some (.int x)] [.int x] h) ∧
  (∀ (l1 : Option Value) (s0 : Int32) (x : Nat) (h : sx_H), sx_Ev S 21 5 [some (.ref x), l1] [.int s0] h = sx_Ev S 21 6 [some (.ref x), l1] [.ref x, .int s0] h) ∧
  (∀ (l0 l1 : Option Value) (s0 : Nat) (s1 : Int32) (h : sx_H), sx_Ev S 21 6 [l0, l1] [.ref s0, .int s1] h = (sx_fld h s0 0 8).bind fun v => sx_Ev S 21 9 [l0, l1] [v, .int s1] h) ∧
  (∀ (l0 l1 : Option Value) (s0 : Nat) (s1 : Int32) (h : sx_H), sx_Ev S 21 9 [l0, l1] [.ref s0, .int s1] h = (sx_ints S h s0).bind fun v => sx_Ev S 21 10 [l0, l1] [.int (Int32.ofNat v.length), .int s1] h) ∧
  (∀ (l0 l1 : Option Value) (s0 : Int32) (s1 : Int32) (h : sx_H), sx_Ev S 21 10 [l0, l1] [.int s0, .int s1] h = if s1 < s0 then sx_Ev S 21 13 [l0, l1] [] h else sx_Ev S 21 22 [l0, l1] [] h) ∧
  (∀ (l1 : Option Value) (x : Nat) (h : sx_H), sx_Ev S 21 13 [some (.ref x), l1] [] h = sx_Ev S 21 14 [some (.ref x), l1] [.ref x] h) ∧
  (∀ (l0 l1 : Option Value) (s0 : Nat) (h : sx_H), sx_Ev S 21 14 [l0, l1] [.ref s0] h = (sx_fld h s0 0 8).bind fun v => sx_Ev S 21 17 [l0, l1] [v] h) ∧
  (∀ (l0 : Option Value) (s0 : Nat) (x : Int32) (h : sx_H), sx_Ev S 21 17 [l0, some (.int x)] [.ref s0] h = sx_Ev S 21 18 [l0, some (.int x)] [.int x, .ref s0] h) ∧
  (∀ (l0 l1 : Option Value) (s0 : Int32) (s1 : Nat) (h : sx_H), sx_Ev S 21 18 [l0, l1] [.int s0, .ref s1] h = (sx_rd S h s1 s0).bind fun v => sx_Ev S 21 19 [l0, l1] [.int v] h) ∧
  (∀ (l0 l1 : Option Value) (s0 : Int32) (h : sx_H), sx_Ev S 21 19 [l0, l1] [.int s0] h = sx_Ev S 21 23 [l0, l1] [.int s0] h) ∧
  (∀ (l0 l1 : Option Value) (h : sx_H), sx_Ev S 21 22 [l0, l1] [] h = sx_Ev S 21 23 [l0, l1] [.int (sz (0))] h) ∧
  (∀ (l0 l1 : Option Value) (s0 : Int32) (h : sx_H), sx_Ev S 21 23 [l0, l1] [.int s0] h = some (.inl (some (.int s0)), h)) := ⟨fun _ _ _ => sx_e_nx rfl rfl,
  fun _ _ _ _ => sx_e_lt rfl (by decide) rfl,
  fun _ _ _ => sx_e_nx rfl rfl,
  fun _ _ _ _ => sx_e_nx rfl rfl,
  fun _ _ _ _ _ => sx_e_getf rfl rfl (by decide) rfl,
  fun _ _ _ _ _ => sx_e_alen rfl rfl,
  fun _ _ _ _ _ => sx_e_ige rfl (by decide) rfl,
  fun _ _ _ => sx_e_nx rfl rfl,
  fun _ _ _ _ => sx_e_getf rfl rfl (by decide) rfl,
  fun _ _ _ _ => sx_e_nx rfl rfl,
  fun _ _ _ _ _ => sx_e_iald rfl rfl,
  fun _ _ _ _ => sx_e_goto rfl (by decide),
  fun _ _ _ => sx_e_nx rfl rfl,
  fun _ _ _ _ => sx_e_ret rfl rfl rfl⟩
/-- 22: X1_setPasses (II)V -/
theorem c22_q (S : List Int32) : ∀ (a0 : Nat) (a1 : Int32) (a2 : Int32) (h : sx_H), sx_Cl S 22 [.ref a0, .int a1, .int a2] h = sx_Ev S 22 0 [some (.ref a0), some (.int a1), some (.int a2)] [] h := fun _ _ _ _ => rfl
theorem q22 (S : List Int32) : (∀ (l0 l2 : Option Value) (x : Int32) (h : sx_H), sx_Ev S 22 0 [l0, some (.int x), l2] [] h = sx_Ev S 22 1 [l0, some (.int x), l2] [.int x] h) ∧
  (∀ (l0 l1 l2 : Option Value) (s0 : Int32) (h : sx_H), sx_Ev S 22 1 [l0, l1, l2] [.int s0] h = if s0 < 0 then sx_Ev S 22 20 [l0, l1, l2] [] h else sx_Ev S 22 4 [l0, l1, l2] [] h) ∧
  (∀ (l0 l2 : Option Value) (x : Int32) (h : sx_H), sx_Ev S 22 4 [l0, some (.int x), l2] [] h = sx_Ev S 22 5 [l0, some (.int x), l2] [.int x] h) ∧
  (∀ (l1 l2 : Option Value) (s0 : Int32) (x : Nat) (h : sx_H), sx_Ev S 22 5 [some (.ref x), l1, l2] [.int s0] h = sx_Ev S 22 6 [some (.ref x), l1, l2] [.ref x, .int s0] h) ∧
  (∀ (l0 l1 l2 : Option Value) (s0 : Nat) (s1 : Int32) (h : sx_H), sx_Ev S 22 6 [l0, l1, l2] [.ref s0, .int s1] h = (sx_fld h s0 0 8).bind fun v => sx_Ev S 22 9 [l0, l1, l2] [v, .int s1] h) ∧
  (∀ (l0 l1 l2 : Option Value) (s0 : Nat) (s1 : Int32) (h : sx_H), sx_Ev S 22 9 [l0, l1, l2] [.ref s0, .int s1] h = (sx_ints S h s0).bind fun v => sx_Ev S 22 10 [l0, l1, l2] [.int (Int32.ofNat v.length), .int s1] h) ∧
  (∀ (l0 l1 l2 : Option Value) (s0 : Int32) (s1 : Int32) (h : sx_H), sx_Ev S 22 10 [l0, l1, l2] [.int s0, .int s1] h = if s1 < s0 then sx_Ev S 22 13 [l0, l1, l2] [] h else sx_Ev S 22 20 [l0, l1, l2] [] h) ∧
  (∀ (l1 l2 : Option Value) (x : Nat) (h : sx_H), sx_Ev S 22 13 [some (.ref x), l1, l2] [] h = sx_Ev S 22 14 [some (.ref x), l1, l2] [.ref x] h) ∧
  (∀ (l0 l1 l2 : Option Value) (s0 : Nat) (h : sx_H), sx_Ev S 22 14 [l0, l1, l2] [.ref s0] h = (sx_fld h s0 0 8).bind fun v => sx_Ev S 22 17 [l0, l1, l2] [v] h) ∧
  (∀ (l0 l2 : Option Value) (s0 : Nat) (x : Int32) (h : sx_H), sx_Ev S 22 17 [l0, some (.int x), l2] [.ref s0] h = sx_Ev S 22 18 [l0, some (.int x), l2] [.int x, .ref s0] h) ∧
  (∀ (l0 l1 : Option Value) (s0 : Int32) (s1 : Nat) (x : Int32) (h : sx_H), sx_Ev S 22 18 [l0, l1, some (.int x)] [.int s0, .ref s1] h = sx_Ev S 22 19 [l0, l1, some (.int x)] [.int x, .int s0, .ref s1] h) ∧
  (∀ (l0 l1 l2 : Option Value) (s0 : Int32) (s1 : Int32) (s2 : Nat) (h : sx_H), sx_Ev S 22 19 [l0, l1, l2] [.int s0, .int s1, .ref s2] h = (sx_wr h s2 s1 s0).bind fun h => sx_Ev S 22 20 [l0, l1, l2] [] h) ∧
  (∀ (l0 l1 l2 : Option Value) (h : sx_H), sx_Ev S 22 20 [l0, l1, l2] [] h = some (.inl none, h)) := ⟨fun _ _ _ _ => sx_e_nx rfl rfl,
  fun _ _ _ _ _ => sx_e_lt rfl (by decide) rfl,
  fun _ _ _ _ => sx_e_nx rfl rfl,
  fun _ _ _ _ _ => sx_e_nx rfl rfl,
  fun _ _ _ _ _ _ => sx_e_getf rfl rfl (by decide) rfl,
  fun _ _ _ _ _ _ => sx_e_alen rfl rfl,
  fun _ _ _ _ _ _ => sx_e_ige rfl (by decide) rfl,
  fun _ _ _ _ => sx_e_nx rfl rfl,
  fun _ _ _ _ _ => sx_e_getf rfl rfl (by decide) rfl,
  fun _ _ _ _ _ => sx_e_nx rfl rfl,
  fun _ _ _ _ _ _ => sx_e_nx rfl rfl,
  fun _ _ _ _ _ _ _ => sx_e_iast rfl rfl,
  fun _ _ _ _ => sx_e_dn rfl rfl⟩
/-- 23: X1_init (LBeadslant$Kinds;CII)V -/
theorem c23_q (S : List Int32) : ∀ (a0 : Nat) (a1 : Nat) (a2 : Int32) (a3 : Int32) (a4 : Int32) (h : sx_H), sx_Cl S 23 [.ref a0, .ref a1, .int a2, .int a3, .int a4] h = sx_Ev S 23 0 [some (.ref a0), some (.ref a1), some (.int a2), some (.int a3), some (.int a4), none, none, none] [] h := fun _ _ _ _ _ _ => rfl
theorem h23_98 (S : List Int32) : (∀ (l0 l1 l2 l3 l4 l5 l7 : Option Value) (x : Int32) (h : sx_H), sx_Ev S 23 98 [l0, l1, l2, l3, l4, l5, some (.int x), l7] [] h = sx_Ev S 23 100 [l0, l1, l2, l3, l4, l5, some (.int x), l7] [.int x] h) := fun _ _ _ _ _ _ _ _ _ => sx_e_nx rfl rfl
theorem h23_138 (S : List Int32) : (∀ (l0 l1 l2 l3 l4 l5 l7 : Option Value) (x : Int32) (h : sx_H), sx_Ev S 23 138 [l0, l1, l2, l3, l4, l5, some (.int x), l7] [] h = sx_Ev S 23 140 [l0, l1, l2, l3, l4, l5, some (.int x), l7] [.int x] h) := fun _ _ _ _ _ _ _ _ _ => sx_e_nx rfl rfl
theorem q23_0 (S : List Int32) : (∀ (l1 l2 l3 l4 l5 l6 l7 : Option Value) (x : Nat) (h : sx_H), sx_Ev S 23 0 [some (.ref x), l1, l2, l3, l4, l5, l6, l7] [] h = sx_Ev S 23 1 [some (.ref x), l1, l2, l3, l4, l5, l6, l7] [.ref x] h) ∧
  (∀ (l0 l1 l2 l3 l4 l5 l6 l7 : Option Value) (s0 : Nat) (h : sx_H), sx_Ev S 23 1 [l0, l1, l2, l3, l4, l5, l6, l7] [.ref s0] h = sx_Ev S 23 4 [l0, l1, l2, l3, l4, l5, l6, l7] [] h) ∧
  (∀ (l1 l2 l3 l4 l5 l6 l7 : Option Value) (x : Nat) (h : sx_H), sx_Ev S 23 4 [some (.ref x), l1, l2, l3, l4, l5, l6, l7] [] h = sx_Ev S 23 5 [some (.ref x), l1, l2, l3, l4, l5, l6, l7] [.ref x] h) ∧
  (∀ (l0 l1 l2 l3 l4 l5 l6 l7 : Option Value) (s0 : Nat) (h : sx_H), sx_Ev S 23 5 [l0, l1, l2, l3, l4, l5, l6, l7] [.ref s0] h = sx_Ev S 23 7 [l0, l1, l2, l3, l4, l5, l6, l7] [.int (sz (100)), .ref s0] h) ∧
  (∀ (l0 l1 l2 l3 l4 l5 l6 l7 : Option Value) (s0 : Int32) (s1 : Nat) (h : sx_H), fits .char (.int s0) = true ∧ narrow .char (.int s0) = .int s0 → sx_Ev S 23 7 [l0, l1, l2, l3, l4, l5, l6, l7] [.int s0, .ref s1] h = (sx_fst h s1 0 9 (.int s0)).bind fun h => sx_Ev S 23 10 [l0, l1, l2, l3, l4, l5, l6, l7] [] h) ∧
  (∀ (l1 l2 l3 l4 l5 l6 l7 : Option Value) (x : Nat) (h : sx_H), sx_Ev S 23 10 [some (.ref x), l1, l2, l3, l4, l5, l6, l7] [] h = sx_Ev S 23 11 [some (.ref x), l1, l2, l3, l4, l5, l6, l7] [.ref x] h) ∧
  (∀ (l0 l2 l3 l4 l5 l6 l7 : Option Value) (s0 : Nat) (x : Nat) (h : sx_H), sx_Ev S 23 11 [l0, some (.ref x), l2, l3, l4, l5, l6, l7] [.ref s0] h = sx_Ev S 23 12 [l0, some (.ref x), l2, l3, l4, l5, l6, l7] [.ref x, .ref s0] h) ∧
  (∀ (l0 l1 l2 l3 l4 l5 l6 l7 : Option Value) (s0 : Nat) (s1 : Nat) (h : sx_H), sx_Ev S 23 12 [l0, l1, l2, l3, l4, l5, l6, l7] [.ref s0, .ref s1] h = (sx_fst h s1 0 0 (.ref s0)).bind fun h => sx_Ev S 23 15 [l0, l1, l2, l3, l4, l5, l6, l7] [] h) ∧
  (∀ (l1 l2 l3 l4 l5 l6 l7 : Option Value) (x : Nat) (h : sx_H), sx_Ev S 23 15 [some (.ref x), l1, l2, l3, l4, l5, l6, l7] [] h = sx_Ev S 23 16 [some (.ref x), l1, l2, l3, l4, l5, l6, l7] [.ref x] h) ∧
  (∀ (l0 l1 l3 l4 l5 l6 l7 : Option Value) (s0 : Nat) (x : Int32) (h : sx_H), sx_Ev S 23 16 [l0, l1, some (.int x), l3, l4, l5, l6, l7] [.ref s0] h = sx_Ev S 23 17 [l0, l1, some (.int x), l3, l4, l5, l6, l7] [.int x, .ref s0] h) ∧
  (∀ (l0 l1 l2 l3 l4 l5 l6 l7 : Option Value) (s0 : Int32) (s1 : Nat) (h : sx_H), fits .char (.int s0) = true ∧ narrow .char (.int s0) = .int s0 → sx_Ev S 23 17 [l0, l1, l2, l3, l4, l5, l6, l7] [.int s0, .ref s1] h = (sx_fst h s1 0 1 (.int s0)).bind fun h => sx_Ev S 23 20 [l0, l1, l2, l3, l4, l5, l6, l7] [] h) ∧
  (∀ (l1 l2 l3 l4 l5 l6 l7 : Option Value) (x : Nat) (h : sx_H), sx_Ev S 23 20 [some (.ref x), l1, l2, l3, l4, l5, l6, l7] [] h = sx_Ev S 23 21 [some (.ref x), l1, l2, l3, l4, l5, l6, l7] [.ref x] h) ∧
  (∀ (l0 l1 l2 l4 l5 l6 l7 : Option Value) (s0 : Nat) (x : Int32) (h : sx_H), sx_Ev S 23 21 [l0, l1, l2, some (.int x), l4, l5, l6, l7] [.ref s0] h = sx_Ev S 23 22 [l0, l1, l2, some (.int x), l4, l5, l6, l7] [.int x, .ref s0] h) ∧
  (∀ (l0 l1 l2 l3 l4 l5 l6 l7 : Option Value) (s0 : Int32) (s1 : Nat) (h : sx_H), sx_Ev S 23 22 [l0, l1, l2, l3, l4, l5, l6, l7] [.int s0, .ref s1] h = (sx_fst h s1 0 2 (.int s0)).bind fun h => sx_Ev S 23 25 [l0, l1, l2, l3, l4, l5, l6, l7] [] h) ∧
  (∀ (l1 l2 l3 l4 l5 l6 l7 : Option Value) (x : Nat) (h : sx_H), sx_Ev S 23 25 [some (.ref x), l1, l2, l3, l4, l5, l6, l7] [] h = sx_Ev S 23 26 [some (.ref x), l1, l2, l3, l4, l5, l6, l7] [.ref x] h) ∧
  (∀ (l0 l1 l2 l3 l5 l6 l7 : Option Value) (s0 : Nat) (x : Int32) (h : sx_H), sx_Ev S 23 26 [l0, l1, l2, l3, some (.int x), l5, l6, l7] [.ref s0] h = sx_Ev S 23 28 [l0, l1, l2, l3, some (.int x), l5, l6, l7] [.int x, .ref s0] h) ∧
  (∀ (l0 l1 l2 l3 l4 l5 l6 l7 : Option Value) (s0 : Int32) (s1 : Nat) (h : sx_H), sx_Ev S 23 28 [l0, l1, l2, l3, l4, l5, l6, l7] [.int s0, .ref s1] h = (sx_fst h s1 0 3 (.int s0)).bind fun h => sx_Ev S 23 31 [l0, l1, l2, l3, l4, l5, l6, l7] [] h) ∧
  (∀ (l1 l2 l3 l4 l5 l6 l7 : Option Value) (x : Nat) (h : sx_H), sx_Ev S 23 31 [some (.ref x), l1, l2, l3, l4, l5, l6, l7] [] h = sx_Ev S 23 32 [some (.ref x), l1, l2, l3, l4, l5, l6, l7] [.ref x] h) ∧
  (∀ (l0 l1 l2 l3 l4 l5 l6 l7 : Option Value) (s0 : Nat) (h : sx_H), sx_Ev S 23 32 [l0, l1, l2, l3, l4, l5, l6, l7] [.ref s0] h = sx_Ev S 23 35 [l0, l1, l2, l3, l4, l5, l6, l7] [.ref (sx_new h), .ref s0] (sx_push h (some (.inr (.inr (3, sx_df 3)))) (sx_N 3))) ∧
  (∀ (l0 l1 l2 l3 l4 l5 l6 l7 : Option Value) (s0 : Nat) (s1 : Nat) (h : sx_H), sx_Ev S 23 35 [l0, l1, l2, l3, l4, l5, l6, l7] [.ref s0, .ref s1] h = sx_Ev S 23 36 [l0, l1, l2, l3, l4, l5, l6, l7] [.ref s0, .ref s0, .ref s1] h) ∧
  (∀ (l0 l1 l3 l4 l5 l6 l7 : Option Value) (s0 : Nat) (s1 : Nat) (s2 : Nat) (x : Int32) (h : sx_H), sx_Ev S 23 36 [l0, l1, some (.int x), l3, l4, l5, l6, l7] [.ref s0, .ref s1, .ref s2] h = sx_Ev S 23 37 [l0, l1, some (.int x), l3, l4, l5, l6, l7] [.int x, .ref s0, .ref s1, .ref s2] h) ∧
  (∀ (l0 l1 l2 l4 l5 l6 l7 : Option Value) (s0 : Int32) (s1 : Nat) (s2 : Nat) (s3 : Nat) (x : Int32) (h : sx_H), sx_Ev S 23 37 [l0, l1, l2, some (.int x), l4, l5, l6, l7] [.int s0, .ref s1, .ref s2, .ref s3] h = sx_Ev S 23 38 [l0, l1, l2, some (.int x), l4, l5, l6, l7] [.int x, .int s0, .ref s1, .ref s2, .ref s3] h) ∧
  (∀ (l0 l1 l2 l3 l5 l6 l7 : Option Value) (s0 : Int32) (s1 : Int32) (s2 : Nat) (s3 : Nat) (s4 : Nat) (x : Int32) (h : sx_H), sx_Ev S 23 38 [l0, l1, l2, l3, some (.int x), l5, l6, l7] [.int s0, .int s1, .ref s2, .ref s3, .ref s4] h = sx_Ev S 23 40 [l0, l1, l2, l3, some (.int x), l5, l6, l7] [.int x, .int s0, .int s1, .ref s2, .ref s3, .ref s4] h) ∧
  (∀ (l0 l1 l2 l3 l4 l5 l6 l7 : Option Value) (s0 : Int32) (s1 : Int32) (s2 : Int32) (s3 : Nat) (s4 : Nat) (s5 : Nat) (h : sx_H), sx_Ev S 23 40 [l0, l1, l2, l3, l4, l5, l6, l7] [.int s0, .int s1, .int s2, .ref s3, .ref s4, .ref s5] h = sx_back S 23 40 [l0, l1, l2, l3, l4, l5, l6, l7] [.ref s4, .ref s5] (sx_Cl S 18 [.ref s3, .int s2, .int s1, .int s0] h)) ∧
  (∀ (ls : sx_L) (st : List Value) (h : sx_H), sx_back S 23 40 ls st (some (.inl none, h)) = sx_Ev S 23 43 ls st h) ∧
  (∀ (ls : sx_L) (st : List Value) (e : Nat) (h : sx_H), sx_back S 23 40 ls st (some (.inr e, h)) = some (.inr e, h)) ∧
  (∀ (l0 l1 l2 l3 l4 l5 l6 l7 : Option Value) (s0 : Nat) (s1 : Nat) (h : sx_H), sx_Ev S 23 43 [l0, l1, l2, l3, l4, l5, l6, l7] [.ref s0, .ref s1] h = (sx_fst h s1 0 4 (.ref s0)).bind fun h => sx_Ev S 23 46 [l0, l1, l2, l3, l4, l5, l6, l7] [] h) ∧
  (∀ (l0 l1 l2 l4 l5 l6 l7 : Option Value) (x : Int32) (h : sx_H), sx_Ev S 23 46 [l0, l1, l2, some (.int x), l4, l5, l6, l7] [] h = sx_Ev S 23 47 [l0, l1, l2, some (.int x), l4, l5, l6, l7] [.int x] h) ∧
  (∀ (l0 l1 l2 l3 l5 l6 l7 : Option Value) (s0 : Int32) (x : Int32) (h : sx_H), sx_Ev S 23 47 [l0, l1, l2, l3, some (.int x), l5, l6, l7] [.int s0] h = sx_Ev S 23 49 [l0, l1, l2, l3, some (.int x), l5, l6, l7] [.int x, .int s0] h) ∧
  (∀ (l0 l1 l2 l3 l4 l5 l6 l7 : Option Value) (s0 : Int32) (s1 : Int32) (h : sx_H), sx_Ev S 23 49 [l0, l1, l2, l3, l4, l5, l6, l7] [.int s0, .int s1] h = sx_Ev S 23 50 [l0, l1, l2, l3, l4, l5, l6, l7] [.int (s1 * s0)] h) ∧
  (∀ (l0 l1 l2 l3 l4 l5 l6 l7 : Option Value) (s0 : Int32) (h : sx_H), sx_Ev S 23 50 [l0, l1, l2, l3, l4, l5, l6, l7] [.int s0] h = if 0 < s0 then sx_Ev S 23 53 [l0, l1, l2, l3, l4, l5, l6, l7] [] h else sx_Ev S 23 60 [l0, l1, l2, l3, l4, l5, l6, l7] [] h) ∧
  (∀ (l0 l1 l2 l4 l5 l6 l7 : Option Value) (x : Int32) (h : sx_H), sx_Ev S 23 53 [l0, l1, l2, some (.int x), l4, l5, l6, l7] [] h = sx_Ev S 23 54 [l0, l1, l2, some (.int x), l4, l5, l6, l7] [.int x] h) ∧
  (∀ (l0 l1 l2 l3 l5 l6 l7 : Option Value) (s0 : Int32) (x : Int32) (h : sx_H), sx_Ev S 23 54 [l0, l1, l2, l3, some (.int x), l5, l6, l7] [.int s0] h = sx_Ev S 23 56 [l0, l1, l2, l3, some (.int x), l5, l6, l7] [.int x, .int s0] h) ∧
  (∀ (l0 l1 l2 l3 l4 l5 l6 l7 : Option Value) (s0 : Int32) (s1 : Int32) (h : sx_H), sx_Ev S 23 56 [l0, l1, l2, l3, l4, l5, l6, l7] [.int s0, .int s1] h = sx_Ev S 23 57 [l0, l1, l2, l3, l4, l5, l6, l7] [.int (s1 * s0)] h) ∧
  (∀ (l0 l1 l2 l3 l4 l5 l6 l7 : Option Value) (s0 : Int32) (h : sx_H), sx_Ev S 23 57 [l0, l1, l2, l3, l4, l5, l6, l7] [.int s0] h = sx_Ev S 23 61 [l0, l1, l2, l3, l4, l5, l6, l7] [.int s0] h) ∧
  (∀ (l0 l1 l2 l3 l4 l5 l6 l7 : Option Value) (h : sx_H), sx_Ev S 23 60 [l0, l1, l2, l3, l4, l5, l6, l7] [] h = sx_Ev S 23 61 [l0, l1, l2, l3, l4, l5, l6, l7] [.int (sz (0))] h) ∧
  (∀ (l0 l1 l2 l3 l4 l5 l6 l7 : Option Value) (s0 : Int32) (h : sx_H), sx_Ev S 23 61 [l0, l1, l2, l3, l4, l5, l6, l7] [.int s0] h = sx_Ev S 23 63 [l0, l1, l2, l3, l4, some (.int s0), l6, l7] [] h) ∧
  (∀ (l1 l2 l3 l4 l5 l6 l7 : Option Value) (x : Nat) (h : sx_H), sx_Ev S 23 63 [some (.ref x), l1, l2, l3, l4, l5, l6, l7] [] h = sx_Ev S 23 64 [some (.ref x), l1, l2, l3, l4, l5, l6, l7] [.ref x] h) ∧
  (∀ (l0 l1 l2 l3 l4 l6 l7 : Option Value) (s0 : Nat) (x : Int32) (h : sx_H), sx_Ev S 23 64 [l0, l1, l2, l3, l4, some (.int x), l6, l7] [.ref s0] h = sx_Ev S 23 66 [l0, l1, l2, l3, l4, some (.int x), l6, l7] [.int x, .ref s0] h) ∧
  (∀ (l0 l1 l2 l3 l4 l5 l6 l7 : Option Value) (s0 : Int32) (s1 : Nat) (h : sx_H), sx_Ev S 23 66 [l0, l1, l2, l3, l4, l5, l6, l7] [.int s0, .ref s1] h = if s0 < 0 ∨ 65536 < s0.toNatClampNeg then none else sx_Ev S 23 68 [l0, l1, l2, l3, l4, l5, l6, l7] [.ref (sx_new h), .ref s1] (sx_push h (some (.inl (List.replicate s0.toNatClampNeg 0))) s0.toNatClampNeg)) ∧
  (∀ (l0 l1 l2 l3 l4 l5 l6 l7 : Option Value) (s0 : Nat) (s1 : Nat) (h : sx_H), sx_Ev S 23 68 [l0, l1, l2, l3, l4, l5, l6, l7] [.ref s0, .ref s1] h = (sx_fst h s1 0 5 (.ref s0)).bind fun h => sx_Ev S 23 71 [l0, l1, l2, l3, l4, l5, l6, l7] [] h) ∧
  (∀ (l1 l2 l3 l4 l5 l6 l7 : Option Value) (x : Nat) (h : sx_H), sx_Ev S 23 71 [some (.ref x), l1, l2, l3, l4, l5, l6, l7] [] h = sx_Ev S 23 72 [some (.ref x), l1, l2, l3, l4, l5, l6, l7] [.ref x] h) ∧
  (∀ (l0 l1 l2 l3 l4 l6 l7 : Option Value) (s0 : Nat) (x : Int32) (h : sx_H), sx_Ev S 23 72 [l0, l1, l2, l3, l4, some (.int x), l6, l7] [.ref s0] h = sx_Ev S 23 74 [l0, l1, l2, l3, l4, some (.int x), l6, l7] [.int x, .ref s0] h) ∧
  (∀ (l0 l1 l2 l3 l4 l5 l6 l7 : Option Value) (s0 : Int32) (s1 : Nat) (h : sx_H), sx_Ev S 23 74 [l0, l1, l2, l3, l4, l5, l6, l7] [.int s0, .ref s1] h = if s0 < 0 ∨ 65536 < s0.toNatClampNeg then none else sx_Ev S 23 76 [l0, l1, l2, l3, l4, l5, l6, l7] [.ref (sx_new h), .ref s1] (sx_push h (some (.inl (List.replicate s0.toNatClampNeg 0))) s0.toNatClampNeg)) ∧
  (∀ (l0 l1 l2 l3 l4 l5 l6 l7 : Option Value) (s0 : Nat) (s1 : Nat) (h : sx_H), sx_Ev S 23 76 [l0, l1, l2, l3, l4, l5, l6, l7] [.ref s0, .ref s1] h = (sx_fst h s1 0 6 (.ref s0)).bind fun h => sx_Ev S 23 79 [l0, l1, l2, l3, l4, l5, l6, l7] [] h) ∧
  (∀ (l1 l2 l3 l4 l5 l6 l7 : Option Value) (x : Nat) (h : sx_H), sx_Ev S 23 79 [some (.ref x), l1, l2, l3, l4, l5, l6, l7] [] h = sx_Ev S 23 80 [some (.ref x), l1, l2, l3, l4, l5, l6, l7] [.ref x] h) ∧
  (∀ (l0 l1 l2 l3 l4 l6 l7 : Option Value) (s0 : Nat) (x : Int32) (h : sx_H), sx_Ev S 23 80 [l0, l1, l2, l3, l4, some (.int x), l6, l7] [.ref s0] h = sx_Ev S 23 82 [l0, l1, l2, l3, l4, some (.int x), l6, l7] [.int x, .ref s0] h) ∧
  (∀ (l0 l1 l2 l3 l4 l5 l6 l7 : Option Value) (s0 : Int32) (s1 : Nat) (h : sx_H), sx_Ev S 23 82 [l0, l1, l2, l3, l4, l5, l6, l7] [.int s0, .ref s1] h = if s0 < 0 ∨ 65536 < s0.toNatClampNeg then none else sx_Ev S 23 84 [l0, l1, l2, l3, l4, l5, l6, l7] [.ref (sx_new h), .ref s1] (sx_push h (some (.inl (List.replicate s0.toNatClampNeg 0))) s0.toNatClampNeg)) ∧
  (∀ (l0 l1 l2 l3 l4 l5 l6 l7 : Option Value) (s0 : Nat) (s1 : Nat) (h : sx_H), sx_Ev S 23 84 [l0, l1, l2, l3, l4, l5, l6, l7] [.ref s0, .ref s1] h = (sx_fst h s1 0 7 (.ref s0)).bind fun h => sx_Ev S 23 87 [l0, l1, l2, l3, l4, l5, l6, l7] [] h) ∧
  (∀ (l1 l2 l3 l4 l5 l6 l7 : Option Value) (x : Nat) (h : sx_H), sx_Ev S 23 87 [some (.ref x), l1, l2, l3, l4, l5, l6, l7] [] h = sx_Ev S 23 88 [some (.ref x), l1, l2, l3, l4, l5, l6, l7] [.ref x] h) ∧
  (∀ (l0 l1 l2 l3 l4 l6 l7 : Option Value) (s0 : Nat) (x : Int32) (h : sx_H), sx_Ev S 23 88 [l0, l1, l2, l3, l4, some (.int x), l6, l7] [.ref s0] h = sx_Ev S 23 90 [l0, l1, l2, l3, l4, some (.int x), l6, l7] [.int x, .ref s0] h) ∧
  (∀ (l0 l1 l2 l3 l4 l5 l6 l7 : Option Value) (s0 : Int32) (s1 : Nat) (h : sx_H), sx_Ev S 23 90 [l0, l1, l2, l3, l4, l5, l6, l7] [.int s0, .ref s1] h = if s0 < 0 ∨ 65536 < s0.toNatClampNeg then none else sx_Ev S 23 92 [l0, l1, l2, l3, l4, l5, l6, l7] [.ref (sx_new h), .ref s1] (sx_push h (some (.inl (List.replicate s0.toNatClampNeg 0))) s0.toNatClampNeg)) ∧
  (∀ (l0 l1 l2 l3 l4 l5 l6 l7 : Option Value) (s0 : Nat) (s1 : Nat) (h : sx_H), sx_Ev S 23 92 [l0, l1, l2, l3, l4, l5, l6, l7] [.ref s0, .ref s1] h = (sx_fst h s1 0 8 (.ref s0)).bind fun h => sx_Ev S 23 95 [l0, l1, l2, l3, l4, l5, l6, l7] [] h) ∧
  (∀ (l0 l1 l2 l3 l4 l5 l6 l7 : Option Value) (h : sx_H), sx_Ev S 23 95 [l0, l1, l2, l3, l4, l5, l6, l7] [] h = sx_Ev S 23 96 [l0, l1, l2, l3, l4, l5, l6, l7] [.int (sz (0))] h) ∧
  (∀ (l0 l1 l2 l3 l4 l5 l6 l7 : Option Value) (s0 : Int32) (h : sx_H), sx_Ev S 23 96 [l0, l1, l2, l3, l4, l5, l6, l7] [.int s0] h = sx_Ev S 23 98 [l0, l1, l2, l3, l4, l5, some (.int s0), l7] [] h) ∧
  (∀ (l0 l1 l2 l3 l4 l6 l7 : Option Value) (s0 : Int32) (x : Int32) (h : sx_H), sx_Ev S 23 100 [l0, l1, l2, l3, l4, some (.int x), l6, l7] [.int s0] h = sx_Ev S 23 102 [l0, l1, l2, l3, l4, some (.int x), l6, l7] [.int x, .int s0] h) ∧
  (∀ (l0 l1 l2 l3 l4 l5 l6 l7 : Option Value) (s0 : Int32) (s1 : Int32) (h : sx_H), sx_Ev S 23 102 [l0, l1, l2, l3, l4, l5, l6, l7] [.int s0, .int s1] h = if s1 < s0 then sx_Ev S 23 105 [l0, l1, l2, l3, l4, l5, l6, l7] [] h else sx_Ev S 23 135 [l0, l1, l2, l3, l4, l5, l6, l7] [] h) ∧
  (∀ (l1 l2 l3 l4 l5 l6 l7 : Option Value) (x : Nat) (h : sx_H), sx_Ev S 23 105 [some (.ref x), l1, l2, l3, l4, l5, l6, l7] [] h = sx_Ev S 23 106 [some (.ref x), l1, l2, l3, l4, l5, l6, l7] [.ref x] h) ∧
  (∀ (l0 l1 l2 l3 l4 l5 l6 l7 : Option Value) (s0 : Nat) (h : sx_H), sx_Ev S 23 106 [l0, l1, l2, l3, l4, l5, l6, l7] [.ref s0] h = (sx_fld h s0 0 5).bind fun v => sx_Ev S 23 109 [l0, l1, l2, l3, l4, l5, l6, l7] [v] h) ∧
  (∀ (l0 l1 l2 l3 l4 l5 l7 : Option Value) (s0 : Nat) (x : Int32) (h : sx_H), sx_Ev S 23 109 [l0, l1, l2, l3, l4, l5, some (.int x), l7] [.ref s0] h = sx_Ev S 23 111 [l0, l1, l2, l3, l4, l5, some (.int x), l7] [.int x, .ref s0] h) := ⟨fun _ _ _ _ _ _ _ _ _ => sx_e_nx rfl rfl,
  fun _ _ _ _ _ _ _ _ _ _ => sx_e_nx rfl rfl,
  fun _ _ _ _ _ _ _ _ _ => sx_e_nx rfl rfl,
  fun _ _ _ _ _ _ _ _ _ _ => sx_e_bi rfl (by decide +kernel) rfl,
  fun _ _ _ _ _ _ _ _ _ _ _ hv => sx_e_putf rfl rfl (by decide +kernel) hv rfl,
  fun _ _ _ _ _ _ _ _ _ => sx_e_nx rfl rfl,
  fun _ _ _ _ _ _ _ _ _ _ => sx_e_nx rfl rfl,
  fun _ _ _ _ _ _ _ _ _ _ _ => sx_e_putf rfl rfl (by decide +kernel) ⟨rfl, rfl⟩ rfl,
  fun _ _ _ _ _ _ _ _ _ => sx_e_nx rfl rfl,
  fun _ _ _ _ _ _ _ _ _ _ => sx_e_nx rfl rfl,
  fun _ _ _ _ _ _ _ _ _ _ _ hv => sx_e_putf rfl rfl (by decide +kernel) hv rfl,
  fun _ _ _ _ _ _ _ _ _ => sx_e_nx rfl rfl,
  fun _ _ _ _ _ _ _ _ _ _ => sx_e_nx rfl rfl,
  fun _ _ _ _ _ _ _ _ _ _ _ => sx_e_putf rfl rfl (by decide +kernel) ⟨rfl, rfl⟩ rfl,
  fun _ _ _ _ _ _ _ _ _ => sx_e_nx rfl rfl,
  fun _ _ _ _ _ _ _ _ _ _ => sx_e_nx rfl rfl,
  fun _ _ _ _ _ _ _ _ _ _ _ => sx_e_putf rfl rfl (by decide +kernel) ⟨rfl, rfl⟩ rfl,
  fun _ _ _ _ _ _ _ _ _ => sx_e_nx rfl rfl,
  fun _ _ _ _ _ _ _ _ _ _ => sx_e_nx rfl rfl,
  fun _ _ _ _ _ _ _ _ _ _ _ => sx_e_nx rfl rfl,
  fun _ _ _ _ _ _ _ _ _ _ _ _ => sx_e_nx rfl rfl,
  fun _ _ _ _ _ _ _ _ _ _ _ _ _ => sx_e_nx rfl rfl,
  fun _ _ _ _ _ _ _ _ _ _ _ _ _ _ => sx_e_nx rfl rfl,
  fun _ _ _ _ _ _ _ _ _ _ _ _ _ _ _ => sx_e_ca rfl rfl,
  fun _ _ _ => rfl,
  fun _ _ _ _ => rfl,
  fun _ _ _ _ _ _ _ _ _ _ _ => sx_e_putf rfl rfl (by decide +kernel) ⟨rfl, rfl⟩ rfl,
  fun _ _ _ _ _ _ _ _ _ => sx_e_nx rfl rfl,
  fun _ _ _ _ _ _ _ _ _ _ => sx_e_nx rfl rfl,
  fun _ _ _ _ _ _ _ _ _ _ _ => sx_e_nx rfl rfl,
  fun _ _ _ _ _ _ _ _ _ _ => sx_e_le rfl (by decide) rfl,
  fun _ _ _ _ _ _ _ _ _ => sx_e_nx rfl rfl,
  fun _ _ _ _ _ _ _ _ _ _ => sx_e_nx rfl rfl,
  fun _ _ _ _ _ _ _ _ _ _ _ => sx_e_nx rfl rfl,
  fun _ _ _ _ _ _ _ _ _ _ => sx_e_goto rfl (by decide),
  fun _ _ _ _ _ _ _ _ _ => sx_e_nx rfl rfl,
  fun _ _ _ _ _ _ _ _ _ _ => sx_e_nx rfl rfl,
  fun _ _ _ _ _ _ _ _ _ => sx_e_nx rfl rfl,
  fun _ _ _ _ _ _ _ _ _ _ => sx_e_nx rfl rfl,
  fun _ _ _ _ _ _ _ _ _ _ _ => sx_e_newa rfl rfl,
  fun _ _ _ _ _ _ _ _ _ _ _ => sx_e_putf rfl rfl (by decide +kernel) ⟨rfl, rfl⟩ rfl,
  fun _ _ _ _ _ _ _ _ _ => sx_e_nx rfl rfl,
  fun _ _ _ _ _ _ _ _ _ _ => sx_e_nx rfl rfl,
  fun _ _ _ _ _ _ _ _ _ _ _ => sx_e_newa rfl rfl,
  fun _ _ _ _ _ _ _ _ _ _ _ => sx_e_putf rfl rfl (by decide +kernel) ⟨rfl, rfl⟩ rfl,
  fun _ _ _ _ _ _ _ _ _ => sx_e_nx rfl rfl,
  fun _ _ _ _ _ _ _ _ _ _ => sx_e_nx rfl rfl,
  fun _ _ _ _ _ _ _ _ _ _ _ => sx_e_newa rfl rfl,
  fun _ _ _ _ _ _ _ _ _ _ _ => sx_e_putf rfl rfl (by decide +kernel) ⟨rfl, rfl⟩ rfl,
  fun _ _ _ _ _ _ _ _ _ => sx_e_nx rfl rfl,
  fun _ _ _ _ _ _ _ _ _ _ => sx_e_nx rfl rfl,
  fun _ _ _ _ _ _ _ _ _ _ _ => sx_e_newa rfl rfl,
  fun _ _ _ _ _ _ _ _ _ _ _ => sx_e_putf rfl rfl (by decide +kernel) ⟨rfl, rfl⟩ rfl,
  fun _ _ _ _ _ _ _ _ _ => sx_e_nx rfl rfl,
  fun _ _ _ _ _ _ _ _ _ _ => sx_e_nx rfl rfl,
  fun _ _ _ _ _ _ _ _ _ _ => sx_e_nx rfl rfl,
  fun _ _ _ _ _ _ _ _ _ _ _ => sx_e_ige rfl (by decide) rfl,
  fun _ _ _ _ _ _ _ _ _ => sx_e_nx rfl rfl,
  fun _ _ _ _ _ _ _ _ _ _ => sx_e_getf rfl rfl (by decide) rfl,
  fun _ _ _ _ _ _ _ _ _ _ => sx_e_nx rfl rfl⟩
theorem q23_1 (S : List Int32) : (∀ (l0 l1 l2 l3 l4 l5 l6 l7 : Option Value) (s0 : Int32) (s1 : Nat) (h : sx_H), sx_Ev S 23 111 [l0, l1, l2, l3, l4, l5, l6, l7] [.int s0, .ref s1] h = sx_Ev S 23 112 [l0, l1, l2, l3, l4, l5, l6, l7] [.int (sz (-1)), .int s0, .ref s1] h) ∧
  (∀ (l0 l1 l2 l3 l4 l5 l6 l7 : Option Value) (s0 : Int32) (s1 : Int32) (s2 : Nat) (h : sx_H), sx_Ev S 23 112 [l0, l1, l2, l3, l4, l5, l6, l7] [.int s0, .int s1, .ref s2] h = (sx_wr h s2 s1 s0).bind fun h => sx_Ev S 23 113 [l0, l1, l2, l3, l4, l5, l6, l7] [] h) ∧
  (∀ (l1 l2 l3 l4 l5 l6 l7 : Option Value) (x : Nat) (h : sx_H), sx_Ev S 23 113 [some (.ref x), l1, l2, l3, l4, l5, l6, l7] [] h = sx_Ev S 23 114 [some (.ref x), l1, l2, l3, l4, l5, l6, l7] [.ref x] h) ∧
  (∀ (l0 l1 l2 l3 l4 l5 l6 l7 : Option Value) (s0 : Nat) (h : sx_H), sx_Ev S 23 114 [l0, l1, l2, l3, l4, l5, l6, l7] [.ref s0] h = (sx_fld h s0 0 6).bind fun v => sx_Ev S 23 117 [l0, l1, l2, l3, l4, l5, l6, l7] [v] h) ∧
  (∀ (l0 l1 l2 l3 l4 l5 l7 : Option Value) (s0 : Nat) (x : Int32) (h : sx_H), sx_Ev S 23 117 [l0, l1, l2, l3, l4, l5, some (.int x), l7] [.ref s0] h = sx_Ev S 23 119 [l0, l1, l2, l3, l4, l5, some (.int x), l7] [.int x, .ref s0] h) ∧
  (∀ (l0 l1 l2 l3 l4 l5 l6 l7 : Option Value) (s0 : Int32) (s1 : Nat) (h : sx_H), sx_Ev S 23 119 [l0, l1, l2, l3, l4, l5, l6, l7] [.int s0, .ref s1] h = sx_Ev S 23 120 [l0, l1, l2, l3, l4, l5, l6, l7] [.int (sz (-1)), .int s0, .ref s1] h) ∧
  (∀ (l0 l1 l2 l3 l4 l5 l6 l7 : Option Value) (s0 : Int32) (s1 : Int32) (s2 : Nat) (h : sx_H), sx_Ev S 23 120 [l0, l1, l2, l3, l4, l5, l6, l7] [.int s0, .int s1, .ref s2] h = (sx_wr h s2 s1 s0).bind fun h => sx_Ev S 23 121 [l0, l1, l2, l3, l4, l5, l6, l7] [] h) ∧
  (∀ (l1 l2 l3 l4 l5 l6 l7 : Option Value) (x : Nat) (h : sx_H), sx_Ev S 23 121 [some (.ref x), l1, l2, l3, l4, l5, l6, l7] [] h = sx_Ev S 23 122 [some (.ref x), l1, l2, l3, l4, l5, l6, l7] [.ref x] h) ∧
  (∀ (l0 l1 l2 l3 l4 l5 l6 l7 : Option Value) (s0 : Nat) (h : sx_H), sx_Ev S 23 122 [l0, l1, l2, l3, l4, l5, l6, l7] [.ref s0] h = (sx_fld h s0 0 7).bind fun v => sx_Ev S 23 125 [l0, l1, l2, l3, l4, l5, l6, l7] [v] h) ∧
  (∀ (l0 l1 l2 l3 l4 l5 l7 : Option Value) (s0 : Nat) (x : Int32) (h : sx_H), sx_Ev S 23 125 [l0, l1, l2, l3, l4, l5, some (.int x), l7] [.ref s0] h = sx_Ev S 23 127 [l0, l1, l2, l3, l4, l5, some (.int x), l7] [.int x, .ref s0] h) ∧
  (∀ (l0 l1 l2 l3 l4 l5 l6 l7 : Option Value) (s0 : Int32) (s1 : Nat) (h : sx_H), sx_Ev S 23 127 [l0, l1, l2, l3, l4, l5, l6, l7] [.int s0, .ref s1] h = sx_Ev S 23 128 [l0, l1, l2, l3, l4, l5, l6, l7] [.int (sz (-1)), .int s0, .ref s1] h) ∧
  (∀ (l0 l1 l2 l3 l4 l5 l6 l7 : Option Value) (s0 : Int32) (s1 : Int32) (s2 : Nat) (h : sx_H), sx_Ev S 23 128 [l0, l1, l2, l3, l4, l5, l6, l7] [.int s0, .int s1, .ref s2] h = (sx_wr h s2 s1 s0).bind fun h => sx_Ev S 23 129 [l0, l1, l2, l3, l4, l5, l6, l7] [] h) ∧
  (∀ (l0 l1 l2 l3 l4 l5 l7 : Option Value) (x : Int32) (h : sx_H), sx_Ev S 23 129 [l0, l1, l2, l3, l4, l5, some (.int x), l7] [] h = sx_Ev S 23 132 [l0, l1, l2, l3, l4, l5, some (.int (x + sz (1))), l7] [] h) ∧
  (∀ (l0 l1 l2 l3 l4 l5 l6 l7 : Option Value) (h : sx_H), sx_Ev S 23 132 [l0, l1, l2, l3, l4, l5, l6, l7] [] h = sx_Ev S 23 98 [l0, l1, l2, l3, l4, l5, l6, l7] [] h) ∧
  (∀ (l0 l1 l2 l3 l4 l5 l6 l7 : Option Value) (h : sx_H), sx_Ev S 23 135 [l0, l1, l2, l3, l4, l5, l6, l7] [] h = sx_Ev S 23 136 [l0, l1, l2, l3, l4, l5, l6, l7] [.int (sz (0))] h) ∧
  (∀ (l0 l1 l2 l3 l4 l5 l6 l7 : Option Value) (s0 : Int32) (h : sx_H), sx_Ev S 23 136 [l0, l1, l2, l3, l4, l5, l6, l7] [.int s0] h = sx_Ev S 23 138 [l0, l1, l2, l3, l4, l5, some (.int s0), l7] [] h) ∧
  (∀ (l1 l2 l3 l4 l5 l6 l7 : Option Value) (s0 : Int32) (x : Nat) (h : sx_H), sx_Ev S 23 140 [some (.ref x), l1, l2, l3, l4, l5, l6, l7] [.int s0] h = sx_Ev S 23 141 [some (.ref x), l1, l2, l3, l4, l5, l6, l7] [.ref x, .int s0] h) ∧
  (∀ (l0 l1 l2 l3 l4 l5 l6 l7 : Option Value) (s0 : Nat) (s1 : Int32) (h : sx_H), sx_Ev S 23 141 [l0, l1, l2, l3, l4, l5, l6, l7] [.ref s0, .int s1] h = (sx_fld h s0 0 4).bind fun v => sx_Ev S 23 144 [l0, l1, l2, l3, l4, l5, l6, l7] [v, .int s1] h) ∧
  (∀ (l0 l1 l2 l3 l4 l5 l6 l7 : Option Value) (s0 : Nat) (s1 : Int32) (h : sx_H), sx_klass h s0 = some 3 → sx_Ev S 23 144 [l0, l1, l2, l3, l4, l5, l6, l7] [.ref s0, .int s1] h = sx_back S 23 144 [l0, l1, l2, l3, l4, l5, l6, l7] [.int s1] (sx_Cl S 19 [.ref s0] h)) ∧
  (∀ (ls : sx_L) (st : List Value) (v : Value) (h : sx_H), sx_back S 23 144 ls st (some (.inl (some v), h)) = sx_Ev S 23 147 ls (v :: st) h) ∧
  (∀ (ls : sx_L) (st : List Value) (e : Nat) (h : sx_H), sx_back S 23 144 ls st (some (.inr e, h)) = some (.inr e, h)) ∧
  (∀ (l0 l1 l2 l3 l4 l5 l6 l7 : Option Value) (s0 : Int32) (s1 : Int32) (h : sx_H), sx_Ev S 23 147 [l0, l1, l2, l3, l4, l5, l6, l7] [.int s0, .int s1] h = if s1 < s0 then sx_Ev S 23 150 [l0, l1, l2, l3, l4, l5, l6, l7] [] h else sx_Ev S 23 181 [l0, l1, l2, l3, l4, l5, l6, l7] [] h) ∧
  (∀ (l1 l2 l3 l4 l5 l6 l7 : Option Value) (x : Nat) (h : sx_H), sx_Ev S 23 150 [some (.ref x), l1, l2, l3, l4, l5, l6, l7] [] h = sx_Ev S 23 151 [some (.ref x), l1, l2, l3, l4, l5, l6, l7] [.ref x] h) ∧
  (∀ (l0 l1 l2 l3 l4 l5 l6 l7 : Option Value) (s0 : Nat) (h : sx_H), sx_Ev S 23 151 [l0, l1, l2, l3, l4, l5, l6, l7] [.ref s0] h = (sx_fld h s0 0 4).bind fun v => sx_Ev S 23 154 [l0, l1, l2, l3, l4, l5, l6, l7] [v] h) ∧
  (∀ (l0 l1 l2 l3 l4 l5 l7 : Option Value) (s0 : Nat) (x : Int32) (h : sx_H), sx_Ev S 23 154 [l0, l1, l2, l3, l4, l5, some (.int x), l7] [.ref s0] h = sx_Ev S 23 156 [l0, l1, l2, l3, l4, l5, some (.int x), l7] [.int x, .ref s0] h) ∧
  (∀ (l0 l1 l2 l3 l4 l5 l6 l7 : Option Value) (s0 : Int32) (s1 : Nat) (h : sx_H), sx_klass h s1 = some 3 → sx_Ev S 23 156 [l0, l1, l2, l3, l4, l5, l6, l7] [.int s0, .ref s1] h = sx_back S 23 156 [l0, l1, l2, l3, l4, l5, l6, l7] [] (sx_Cl S 20 [.ref s1, .int s0] h)) ∧
  (∀ (ls : sx_L) (st : List Value) (v : Value) (h : sx_H), sx_back S 23 156 ls st (some (.inl (some v), h)) = sx_Ev S 23 159 ls (v :: st) h) ∧
  (∀ (ls : sx_L) (st : List Value) (e : Nat) (h : sx_H), sx_back S 23 156 ls st (some (.inr e, h)) = some (.inr e, h)) ∧
  (∀ (l0 l1 l2 l3 l4 l5 l6 l7 : Option Value) (s0 : Int32) (h : sx_H), sx_Ev S 23 159 [l0, l1, l2, l3, l4, l5, l6, l7] [.int s0] h = sx_Ev S 23 161 [l0, l1, l2, l3, l4, l5, l6, some (.int s0)] [] h) ∧
  (∀ (l1 l2 l3 l4 l5 l6 l7 : Option Value) (x : Nat) (h : sx_H), sx_Ev S 23 161 [some (.ref x), l1, l2, l3, l4, l5, l6, l7] [] h = sx_Ev S 23 162 [some (.ref x), l1, l2, l3, l4, l5, l6, l7] [.ref x] h) ∧
  (∀ (l0 l1 l2 l3 l4 l5 l6 : Option Value) (s0 : Nat) (x : Int32) (h : sx_H), sx_Ev S 23 162 [l0, l1, l2, l3, l4, l5, l6, some (.int x)] [.ref s0] h = sx_Ev S 23 164 [l0, l1, l2, l3, l4, l5, l6, some (.int x)] [.int x, .ref s0] h) ∧
  (∀ (l1 l2 l3 l4 l5 l6 l7 : Option Value) (s0 : Int32) (s1 : Nat) (x : Nat) (h : sx_H), sx_Ev S 23 164 [some (.ref x), l1, l2, l3, l4, l5, l6, l7] [.int s0, .ref s1] h = sx_Ev S 23 165 [some (.ref x), l1, l2, l3, l4, l5, l6, l7] [.ref x, .int s0, .ref s1] h) ∧
  (∀ (l0 l1 l2 l3 l4 l5 l6 : Option Value) (s0 : Nat) (s1 : Int32) (s2 : Nat) (x : Int32) (h : sx_H), sx_Ev S 23 165 [l0, l1, l2, l3, l4, l5, l6, some (.int x)] [.ref s0, .int s1, .ref s2] h = sx_Ev S 23 167 [l0, l1, l2, l3, l4, l5, l6, some (.int x)] [.int x, .ref s0, .int s1, .ref s2] h) ∧
  (∀ (l0 l1 l2 l3 l4 l5 l6 l7 : Option Value) (s0 : Int32) (s1 : Nat) (s2 : Int32) (s3 : Nat) (h : sx_H), sx_klass h s1 = some 0 → sx_Ev S 23 167 [l0, l1, l2, l3, l4, l5, l6, l7] [.int s0, .ref s1, .int s2, .ref s3] h = sx_back S 23 167 [l0, l1, l2, l3, l4, l5, l6, l7] [.int s2, .ref s3] (sx_Cl S 21 [.ref s1, .int s0] h)) ∧
  (∀ (ls : sx_L) (st : List Value) (v : Value) (h : sx_H), sx_back S 23 167 ls st (some (.inl (some v), h)) = sx_Ev S 23 170 ls (v :: st) h) ∧
  (∀ (ls : sx_L) (st : List Value) (e : Nat) (h : sx_H), sx_back S 23 167 ls st (some (.inr e, h)) = some (.inr e, h)) ∧
  (∀ (l0 l1 l2 l3 l4 l5 l6 l7 : Option Value) (s0 : Int32) (s1 : Int32) (s2 : Nat) (h : sx_H), sx_Ev S 23 170 [l0, l1, l2, l3, l4, l5, l6, l7] [.int s0, .int s1, .ref s2] h = sx_Ev S 23 171 [l0, l1, l2, l3, l4, l5, l6, l7] [.int (sz (1)), .int s0, .int s1, .ref s2] h) ∧
  (∀ (l0 l1 l2 l3 l4 l5 l6 l7 : Option Value) (s0 : Int32) (s1 : Int32) (s2 : Int32) (s3 : Nat) (h : sx_H), sx_Ev S 23 171 [l0, l1, l2, l3, l4, l5, l6, l7] [.int s0, .int s1, .int s2, .ref s3] h = sx_Ev S 23 172 [l0, l1, l2, l3, l4, l5, l6, l7] [.int (s1 + s0), .int s2, .ref s3] h) ∧
  (∀ (l0 l1 l2 l3 l4 l5 l6 l7 : Option Value) (s0 : Int32) (s1 : Int32) (s2 : Nat) (h : sx_H), sx_klass h s2 = some 0 → sx_Ev S 23 172 [l0, l1, l2, l3, l4, l5, l6, l7] [.int s0, .int s1, .ref s2] h = sx_back S 23 172 [l0, l1, l2, l3, l4, l5, l6, l7] [] (sx_Cl S 22 [.ref s2, .int s1, .int s0] h)) ∧
  (∀ (ls : sx_L) (st : List Value) (h : sx_H), sx_back S 23 172 ls st (some (.inl none, h)) = sx_Ev S 23 175 ls st h) ∧
  (∀ (ls : sx_L) (st : List Value) (e : Nat) (h : sx_H), sx_back S 23 172 ls st (some (.inr e, h)) = some (.inr e, h)) ∧
  (∀ (l0 l1 l2 l3 l4 l5 l7 : Option Value) (x : Int32) (h : sx_H), sx_Ev S 23 175 [l0, l1, l2, l3, l4, l5, some (.int x), l7] [] h = sx_Ev S 23 178 [l0, l1, l2, l3, l4, l5, some (.int (x + sz (1))), l7] [] h) ∧
  (∀ (l0 l1 l2 l3 l4 l5 l6 l7 : Option Value) (h : sx_H), sx_Ev S 23 178 [l0, l1, l2, l3, l4, l5, l6, l7] [] h = sx_Ev S 23 138 [l0, l1, l2, l3, l4, l5, l6, l7] [] h) ∧
  (∀ (l0 l1 l2 l3 l4 l5 l6 l7 : Option Value) (h : sx_H), sx_Ev S 23 181 [l0, l1, l2, l3, l4, l5, l6, l7] [] h = some (.inl none, h)) := ⟨fun _ _ _ _ _ _ _ _ _ _ _ => sx_e_nx rfl rfl,
  fun _ _ _ _ _ _ _ _ _ _ _ _ => sx_e_iast rfl rfl,
  fun _ _ _ _ _ _ _ _ _ => sx_e_nx rfl rfl,
  fun _ _ _ _ _ _ _ _ _ _ => sx_e_getf rfl rfl (by decide) rfl,
  fun _ _ _ _ _ _ _ _ _ _ => sx_e_nx rfl rfl,
  fun _ _ _ _ _ _ _ _ _ _ _ => sx_e_nx rfl rfl,
  fun _ _ _ _ _ _ _ _ _ _ _ _ => sx_e_iast rfl rfl,
  fun _ _ _ _ _ _ _ _ _ => sx_e_nx rfl rfl,
  fun _ _ _ _ _ _ _ _ _ _ => sx_e_getf rfl rfl (by decide) rfl,
  fun _ _ _ _ _ _ _ _ _ _ => sx_e_nx rfl rfl,
  fun _ _ _ _ _ _ _ _ _ _ _ => sx_e_nx rfl rfl,
  fun _ _ _ _ _ _ _ _ _ _ _ _ => sx_e_iast rfl rfl,
  fun _ _ _ _ _ _ _ _ _ => sx_e_nx rfl rfl,
  fun _ _ _ _ _ _ _ _ _ => sx_e_goto rfl (by decide),
  fun _ _ _ _ _ _ _ _ _ => sx_e_nx rfl rfl,
  fun _ _ _ _ _ _ _ _ _ _ => sx_e_nx rfl rfl,
  fun _ _ _ _ _ _ _ _ _ _ => sx_e_nx rfl rfl,
  fun _ _ _ _ _ _ _ _ _ _ _ => sx_e_getf rfl rfl (by decide) rfl,
  fun _ _ _ _ _ _ _ _ _ _ _ hv => sx_e_virt rfl rfl ⟨Nat.le_of_ble_eq_true rfl, Nat.le_of_ble_eq_true rfl, rfl⟩ rfl rfl rfl hv,
  fun _ _ _ _ => rfl,
  fun _ _ _ _ => rfl,
  fun _ _ _ _ _ _ _ _ _ _ _ => sx_e_ige rfl (by decide) rfl,
  fun _ _ _ _ _ _ _ _ _ => sx_e_nx rfl rfl,
  fun _ _ _ _ _ _ _ _ _ _ => sx_e_getf rfl rfl (by decide) rfl,
  fun _ _ _ _ _ _ _ _ _ _ => sx_e_nx rfl rfl,
  fun _ _ _ _ _ _ _ _ _ _ _ hv => sx_e_virt rfl rfl ⟨Nat.le_of_ble_eq_true rfl, Nat.le_of_ble_eq_true rfl, rfl⟩ rfl rfl rfl hv,
  fun _ _ _ _ => rfl,
  fun _ _ _ _ => rfl,
  fun _ _ _ _ _ _ _ _ _ _ => sx_e_nx rfl rfl,
  fun _ _ _ _ _ _ _ _ _ => sx_e_nx rfl rfl,
  fun _ _ _ _ _ _ _ _ _ _ => sx_e_nx rfl rfl,
  fun _ _ _ _ _ _ _ _ _ _ _ => sx_e_nx rfl rfl,
  fun _ _ _ _ _ _ _ _ _ _ _ _ => sx_e_nx rfl rfl,
  fun _ _ _ _ _ _ _ _ _ _ _ _ _ hv => sx_e_virt rfl rfl ⟨Nat.le_of_ble_eq_true rfl, Nat.le_of_ble_eq_true rfl, rfl⟩ rfl rfl rfl hv,
  fun _ _ _ _ => rfl,
  fun _ _ _ _ => rfl,
  fun _ _ _ _ _ _ _ _ _ _ _ _ => sx_e_nx rfl rfl,
  fun _ _ _ _ _ _ _ _ _ _ _ _ _ => sx_e_nx rfl rfl,
  fun _ _ _ _ _ _ _ _ _ _ _ _ hv => sx_e_virt rfl rfl ⟨Nat.le_of_ble_eq_true rfl, Nat.le_of_ble_eq_true rfl, rfl⟩ rfl rfl rfl hv,
  fun _ _ _ => rfl,
  fun _ _ _ _ => rfl,
  fun _ _ _ _ _ _ _ _ _ => sx_e_nx rfl rfl,
  fun _ _ _ _ _ _ _ _ _ => sx_e_goto rfl (by decide),
  fun _ _ _ _ _ _ _ _ _ => sx_e_dn rfl rfl⟩
/-- 24: X1_isLike (LBeadslant$Cloth;)Z -/
theorem c24_q (S : List Int32) : ∀ (a0 : Nat) (a1 : Nat) (h : sx_H), sx_Cl S 24 [.ref a0, .ref a1] h = sx_Ev S 24 0 [some (.ref a0), some (.ref a1)] [] h := fun _ _ _ => rfl
theorem q24 (S : List Int32) : (∀ (l1 : Option Value) (x : Nat) (h : sx_H), sx_Ev S 24 0 [some (.ref x), l1] [] h = sx_Ev S 24 1 [some (.ref x), l1] [.ref x] h) ∧
  (∀ (l0 l1 : Option Value) (s0 : Nat) (h : sx_H), sx_Ev S 24 1 [l0, l1] [.ref s0] h = (sx_fld h s0 0 1).bind fun v => sx_Ev S 24 4 [l0, l1] [v] h) ∧
  (∀ (l0 : Option Value) (s0 : Int32) (x : Nat) (h : sx_H), sx_Ev S 24 4 [l0, some (.ref x)] [.int s0] h = sx_Ev S 24 5 [l0, some (.ref x)] [.ref x, .int s0] h) ∧
  (∀ (l0 l1 : Option Value) (s0 : Nat) (s1 : Int32) (h : sx_H), sx_Ev S 24 5 [l0, l1] [.ref s0, .int s1] h = (sx_fld h s0 0 1).bind fun v => sx_Ev S 24 8 [l0, l1] [v, .int s1] h) ∧
  (∀ (l0 l1 : Option Value) (s0 : Int32) (s1 : Int32) (h : sx_H), sx_Ev S 24 8 [l0, l1] [.int s0, .int s1] h = if s1 = s0 then sx_Ev S 24 11 [l0, l1] [] h else sx_Ev S 24 37 [l0, l1] [] h) ∧
  (∀ (l1 : Option Value) (x : Nat) (h : sx_H), sx_Ev S 24 11 [some (.ref x), l1] [] h = sx_Ev S 24 12 [some (.ref x), l1] [.ref x] h) ∧
  (∀ (l0 l1 : Option Value) (s0 : Nat) (h : sx_H), sx_Ev S 24 12 [l0, l1] [.ref s0] h = (sx_fld h s0 0 2).bind fun v => sx_Ev S 24 15 [l0, l1] [v] h) ∧
  (∀ (l0 : Option Value) (s0 : Int32) (x : Nat) (h : sx_H), sx_Ev S 24 15 [l0, some (.ref x)] [.int s0] h = sx_Ev S 24 16 [l0, some (.ref x)] [.ref x, .int s0] h) ∧
  (∀ (l0 l1 : Option Value) (s0 : Nat) (s1 : Int32) (h : sx_H), sx_Ev S 24 16 [l0, l1] [.ref s0, .int s1] h = (sx_fld h s0 0 2).bind fun v => sx_Ev S 24 19 [l0, l1] [v, .int s1] h) ∧
  (∀ (l0 l1 : Option Value) (s0 : Int32) (s1 : Int32) (h : sx_H), sx_Ev S 24 19 [l0, l1] [.int s0, .int s1] h = if s1 = s0 then sx_Ev S 24 22 [l0, l1] [] h else sx_Ev S 24 37 [l0, l1] [] h) ∧
  (∀ (l1 : Option Value) (x : Nat) (h : sx_H), sx_Ev S 24 22 [some (.ref x), l1] [] h = sx_Ev S 24 23 [some (.ref x), l1] [.ref x] h) ∧
  (∀ (l0 l1 : Option Value) (s0 : Nat) (h : sx_H), sx_Ev S 24 23 [l0, l1] [.ref s0] h = (sx_fld h s0 0 3).bind fun v => sx_Ev S 24 26 [l0, l1] [v] h) ∧
  (∀ (l0 : Option Value) (s0 : Int32) (x : Nat) (h : sx_H), sx_Ev S 24 26 [l0, some (.ref x)] [.int s0] h = sx_Ev S 24 27 [l0, some (.ref x)] [.ref x, .int s0] h) ∧
  (∀ (l0 l1 : Option Value) (s0 : Nat) (s1 : Int32) (h : sx_H), sx_Ev S 24 27 [l0, l1] [.ref s0, .int s1] h = (sx_fld h s0 0 3).bind fun v => sx_Ev S 24 30 [l0, l1] [v, .int s1] h) ∧
  (∀ (l0 l1 : Option Value) (s0 : Int32) (s1 : Int32) (h : sx_H), sx_Ev S 24 30 [l0, l1] [.int s0, .int s1] h = if s1 = s0 then sx_Ev S 24 33 [l0, l1] [] h else sx_Ev S 24 37 [l0, l1] [] h) ∧
  (∀ (l0 l1 : Option Value) (h : sx_H), sx_Ev S 24 33 [l0, l1] [] h = sx_Ev S 24 34 [l0, l1] [.int (sz (1))] h) ∧
  (∀ (l0 l1 : Option Value) (s0 : Int32) (h : sx_H), sx_Ev S 24 34 [l0, l1] [.int s0] h = sx_Ev S 24 38 [l0, l1] [.int s0] h) ∧
  (∀ (l0 l1 : Option Value) (h : sx_H), sx_Ev S 24 37 [l0, l1] [] h = sx_Ev S 24 38 [l0, l1] [.int (sz (0))] h) ∧
  (∀ (l0 l1 : Option Value) (s0 : Int32) (h : sx_H), narrow .boolean (.int s0) = .int s0 → sx_Ev S 24 38 [l0, l1] [.int s0] h = some (.inl (some (.int s0)), h)) := ⟨fun _ _ _ => sx_e_nx rfl rfl,
  fun _ _ _ _ => sx_e_getf rfl rfl (by decide) rfl,
  fun _ _ _ _ => sx_e_nx rfl rfl,
  fun _ _ _ _ _ => sx_e_getf rfl rfl (by decide) rfl,
  fun _ _ _ _ _ => sx_e_ine rfl (by decide) rfl,
  fun _ _ _ => sx_e_nx rfl rfl,
  fun _ _ _ _ => sx_e_getf rfl rfl (by decide) rfl,
  fun _ _ _ _ => sx_e_nx rfl rfl,
  fun _ _ _ _ _ => sx_e_getf rfl rfl (by decide) rfl,
  fun _ _ _ _ _ => sx_e_ine rfl (by decide) rfl,
  fun _ _ _ => sx_e_nx rfl rfl,
  fun _ _ _ _ => sx_e_getf rfl rfl (by decide) rfl,
  fun _ _ _ _ => sx_e_nx rfl rfl,
  fun _ _ _ _ _ => sx_e_getf rfl rfl (by decide) rfl,
  fun _ _ _ _ _ => sx_e_ine rfl (by decide) rfl,
  fun _ _ _ => sx_e_nx rfl rfl,
  fun _ _ _ _ => sx_e_goto rfl (by decide),
  fun _ _ _ => sx_e_nx rfl rfl,
  fun _ _ _ _ hv => sx_e_ret rfl rfl hv⟩
/-- 25: X1_hasPlace (II)Z -/
theorem c25_q (S : List Int32) : ∀ (a0 : Nat) (a1 : Int32) (a2 : Int32) (h : sx_H), sx_Cl S 25 [.ref a0, .int a1, .int a2] h = sx_Ev S 25 0 [some (.ref a0), some (.int a1), some (.int a2)] [] h := fun _ _ _ _ => rfl
theorem q25 (S : List Int32) : (∀ (l0 l2 : Option Value) (x : Int32) (h : sx_H), sx_Ev S 25 0 [l0, some (.int x), l2] [] h = sx_Ev S 25 1 [l0, some (.int x), l2] [.int x] h) ∧
  (∀ (l0 l1 l2 : Option Value) (s0 : Int32) (h : sx_H), sx_Ev S 25 1 [l0, l1, l2] [.int s0] h = if s0 < 0 then sx_Ev S 25 28 [l0, l1, l2] [] h else sx_Ev S 25 4 [l0, l1, l2] [] h) ∧
  (∀ (l0 l2 : Option Value) (x : Int32) (h : sx_H), sx_Ev S 25 4 [l0, some (.int x), l2] [] h = sx_Ev S 25 5 [l0, some (.int x), l2] [.int x] h) ∧
  (∀ (l1 l2 : Option Value) (s0 : Int32) (x : Nat) (h : sx_H), sx_Ev S 25 5 [some (.ref x), l1, l2] [.int s0] h = sx_Ev S 25 6 [some (.ref x), l1, l2] [.ref x, .int s0] h) ∧
  (∀ (l0 l1 l2 : Option Value) (s0 : Nat) (s1 : Int32) (h : sx_H), sx_Ev S 25 6 [l0, l1, l2] [.ref s0, .int s1] h = (sx_fld h s0 0 3).bind fun v => sx_Ev S 25 9 [l0, l1, l2] [v, .int s1] h) ∧
  (∀ (l0 l1 l2 : Option Value) (s0 : Int32) (s1 : Int32) (h : sx_H), sx_Ev S 25 9 [l0, l1, l2] [.int s0, .int s1] h = if s1 < s0 then sx_Ev S 25 12 [l0, l1, l2] [] h else sx_Ev S 25 28 [l0, l1, l2] [] h) ∧
  (∀ (l0 l1 : Option Value) (x : Int32) (h : sx_H), sx_Ev S 25 12 [l0, l1, some (.int x)] [] h = sx_Ev S 25 13 [l0, l1, some (.int x)] [.int x] h) ∧
  (∀ (l0 l1 l2 : Option Value) (s0 : Int32) (h : sx_H), sx_Ev S 25 13 [l0, l1, l2] [.int s0] h = if s0 < 0 then sx_Ev S 25 28 [l0, l1, l2] [] h else sx_Ev S 25 16 [l0, l1, l2] [] h) ∧
  (∀ (l0 l1 : Option Value) (x : Int32) (h : sx_H), sx_Ev S 25 16 [l0, l1, some (.int x)] [] h = sx_Ev S 25 17 [l0, l1, some (.int x)] [.int x] h) ∧
  (∀ (l1 l2 : Option Value) (s0 : Int32) (x : Nat) (h : sx_H), sx_Ev S 25 17 [some (.ref x), l1, l2] [.int s0] h = sx_Ev S 25 18 [some (.ref x), l1, l2] [.ref x, .int s0] h) ∧
  (∀ (l0 l1 l2 : Option Value) (s0 : Nat) (s1 : Int32) (h : sx_H), sx_Ev S 25 18 [l0, l1, l2] [.ref s0, .int s1] h = (sx_fld h s0 0 2).bind fun v => sx_Ev S 25 21 [l0, l1, l2] [v, .int s1] h) ∧
  (∀ (l0 l1 l2 : Option Value) (s0 : Int32) (s1 : Int32) (h : sx_H), sx_Ev S 25 21 [l0, l1, l2] [.int s0, .int s1] h = if s1 < s0 then sx_Ev S 25 24 [l0, l1, l2] [] h else sx_Ev S 25 28 [l0, l1, l2] [] h) ∧
  (∀ (l0 l1 l2 : Option Value) (h : sx_H), sx_Ev S 25 24 [l0, l1, l2] [] h = sx_Ev S 25 25 [l0, l1, l2] [.int (sz (1))] h) ∧
  (∀ (l0 l1 l2 : Option Value) (s0 : Int32) (h : sx_H), sx_Ev S 25 25 [l0, l1, l2] [.int s0] h = sx_Ev S 25 29 [l0, l1, l2] [.int s0] h) ∧
  (∀ (l0 l1 l2 : Option Value) (h : sx_H), sx_Ev S 25 28 [l0, l1, l2] [] h = sx_Ev S 25 29 [l0, l1, l2] [.int (sz (0))] h) ∧
  (∀ (l0 l1 l2 : Option Value) (s0 : Int32) (h : sx_H), narrow .boolean (.int s0) = .int s0 → sx_Ev S 25 29 [l0, l1, l2] [.int s0] h = some (.inl (some (.int s0)), h)) := ⟨fun _ _ _ _ => sx_e_nx rfl rfl,
  fun _ _ _ _ _ => sx_e_lt rfl (by decide) rfl,
  fun _ _ _ _ => sx_e_nx rfl rfl,
  fun _ _ _ _ _ => sx_e_nx rfl rfl,
  fun _ _ _ _ _ _ => sx_e_getf rfl rfl (by decide) rfl,
  fun _ _ _ _ _ _ => sx_e_ige rfl (by decide) rfl,
  fun _ _ _ _ => sx_e_nx rfl rfl,
  fun _ _ _ _ _ => sx_e_lt rfl (by decide) rfl,
  fun _ _ _ _ => sx_e_nx rfl rfl,
  fun _ _ _ _ _ => sx_e_nx rfl rfl,
  fun _ _ _ _ _ _ => sx_e_getf rfl rfl (by decide) rfl,
  fun _ _ _ _ _ _ => sx_e_ige rfl (by decide) rfl,
  fun _ _ _ _ => sx_e_nx rfl rfl,
  fun _ _ _ _ _ => sx_e_goto rfl (by decide),
  fun _ _ _ _ => sx_e_nx rfl rfl,
  fun _ _ _ _ _ hv => sx_e_ret rfl rfl hv⟩
/-- 26: X1_cellOf (II)I -/
theorem c26_q (S : List Int32) : ∀ (a0 : Nat) (a1 : Int32) (a2 : Int32) (h : sx_H), sx_Cl S 26 [.ref a0, .int a1, .int a2] h = sx_Ev S 26 0 [some (.ref a0), some (.int a1), some (.int a2)] [] h := fun _ _ _ _ => rfl
theorem q26 (S : List Int32) : (∀ (l0 l2 : Option Value) (x : Int32) (h : sx_H), sx_Ev S 26 0 [l0, some (.int x), l2] [] h = sx_Ev S 26 1 [l0, some (.int x), l2] [.int x] h) ∧
  (∀ (l1 l2 : Option Value) (s0 : Int32) (x : Nat) (h : sx_H), sx_Ev S 26 1 [some (.ref x), l1, l2] [.int s0] h = sx_Ev S 26 2 [some (.ref x), l1, l2] [.ref x, .int s0] h) ∧
  (∀ (l0 l1 l2 : Option Value) (s0 : Nat) (s1 : Int32) (h : sx_H), sx_Ev S 26 2 [l0, l1, l2] [.ref s0, .int s1] h = (sx_fld h s0 0 2).bind fun v => sx_Ev S 26 5 [l0, l1, l2] [v, .int s1] h) ∧
  (∀ (l0 l1 l2 : Option Value) (s0 : Int32) (s1 : Int32) (h : sx_H), sx_Ev S 26 5 [l0, l1, l2] [.int s0, .int s1] h = sx_Ev S 26 6 [l0, l1, l2] [.int (s1 * s0)] h) ∧
  (∀ (l0 l1 : Option Value) (s0 : Int32) (x : Int32) (h : sx_H), sx_Ev S 26 6 [l0, l1, some (.int x)] [.int s0] h = sx_Ev S 26 7 [l0, l1, some (.int x)] [.int x, .int s0] h) ∧
  (∀ (l0 l1 l2 : Option Value) (s0 : Int32) (s1 : Int32) (h : sx_H), sx_Ev S 26 7 [l0, l1, l2] [.int s0, .int s1] h = sx_Ev S 26 8 [l0, l1, l2] [.int (s1 + s0)] h) ∧
  (∀ (l0 l1 l2 : Option Value) (s0 : Int32) (h : sx_H), sx_Ev S 26 8 [l0, l1, l2] [.int s0] h = some (.inl (some (.int s0)), h)) := ⟨fun _ _ _ _ => sx_e_nx rfl rfl,
  fun _ _ _ _ _ => sx_e_nx rfl rfl,
  fun _ _ _ _ _ _ => sx_e_getf rfl rfl (by decide) rfl,
  fun _ _ _ _ _ _ => sx_e_nx rfl rfl,
  fun _ _ _ _ _ => sx_e_nx rfl rfl,
  fun _ _ _ _ _ _ => sx_e_nx rfl rfl,
  fun _ _ _ _ _ => sx_e_ret rfl rfl rfl⟩
/-- 27: X1_kindIn (I)I -/
theorem c27_q (S : List Int32) : ∀ (a0 : Nat) (a1 : Int32) (h : sx_H), sx_Cl S 27 [.ref a0, .int a1] h = sx_Ev S 27 0 [some (.ref a0), some (.int a1)] [] h := fun _ _ _ => rfl
theorem q27 (S : List Int32) : (∀ (l0 : Option Value) (x : Int32) (h : sx_H), sx_Ev S 27 0 [l0, some (.int x)] [] h = sx_Ev S 27 1 [l0, some (.int x)] [.int x] h) ∧
  (∀ (l0 l1 : Option Value) (s0 : Int32) (h : sx_H), sx_Ev S 27 1 [l0, l1] [.int s0] h = if s0 < 0 then sx_Ev S 27 22 [l0, l1] [] h else sx_Ev S 27 4 [l0, l1] [] h) ∧
  (∀ (l0 : Option Value) (x : Int32) (h : sx_H), sx_Ev S 27 4 [l0, some (.int x)] [] h = sx_Ev S 27 5 [l0, some (.int x)] [.int x] h) ∧
  (∀ (l1 : Option Value) (s0 : Int32) (x : Nat) (h : sx_H), sx_Ev S 27 5 [some (.ref x), l1] [.int s0] h = sx_Ev S 27 6 [some (.ref x), l1] [.ref x, .int s0] h) ∧
  (∀ (l0 l1 : Option Value) (s0 : Nat) (s1 : Int32) (h : sx_H), sx_Ev S 27 6 [l0, l1] [.ref s0, .int s1] h = (sx_fld h s0 0 5).bind fun v => sx_Ev S 27 9 [l0, l1] [v, .int s1] h) ∧
  (∀ (l0 l1 : Option Value) (s0 : Nat) (s1 : Int32) (h : sx_H), sx_Ev S 27 9 [l0, l1] [.ref s0, .int s1] h = (sx_ints S h s0).bind fun v => sx_Ev S 27 10 [l0, l1] [.int (Int32.ofNat v.length), .int s1] h) ∧
  (∀ (l0 l1 : Option Value) (s0 : Int32) (s1 : Int32) (h : sx_H), sx_Ev S 27 10 [l0, l1] [.int s0, .int s1] h = if s1 < s0 then sx_Ev S 27 13 [l0, l1] [] h else sx_Ev S 27 22 [l0, l1] [] h) ∧
  (∀ (l1 : Option Value) (x : Nat) (h : sx_H), sx_Ev S 27 13 [some (.ref x), l1] [] h = sx_Ev S 27 14 [some (.ref x), l1] [.ref x] h) ∧
  (∀ (l0 l1 : Option Value) (s0 : Nat) (h : sx_H), sx_Ev S 27 14 [l0, l1] [.ref s0] h = (sx_fld h s0 0 5).bind fun v => sx_Ev S 27 17 [l0, l1] [v] h) ∧
  (∀ (l0 : Option Value) (s0 : Nat) (x : Int32) (h : sx_H), sx_Ev S 27 17 [l0, some (.int x)] [.ref s0] h = sx_Ev S 27 18 [l0, some (.int x)] [.int x, .ref s0] h) ∧
  (∀ (l0 l1 : Option Value) (s0 : Int32) (s1 : Nat) (h : sx_H), sx_Ev S 27 18 [l0, l1] [.int s0, .ref s1] h = (sx_rd S h s1 s0).bind fun v => sx_Ev S 27 19 [l0, l1] [.int v] h) ∧
  (∀ (l0 l1 : Option Value) (s0 : Int32) (h : sx_H), sx_Ev S 27 19 [l0, l1] [.int s0] h = sx_Ev S 27 23 [l0, l1] [.int s0] h) ∧
  (∀ (l0 l1 : Option Value) (h : sx_H), sx_Ev S 27 22 [l0, l1] [] h = sx_Ev S 27 23 [l0, l1] [.int (sz (-1))] h) ∧
  (∀ (l0 l1 : Option Value) (s0 : Int32) (h : sx_H), sx_Ev S 27 23 [l0, l1] [.int s0] h = some (.inl (some (.int s0)), h)) := ⟨fun _ _ _ => sx_e_nx rfl rfl,
  fun _ _ _ _ => sx_e_lt rfl (by decide) rfl,
  fun _ _ _ => sx_e_nx rfl rfl,
  fun _ _ _ _ => sx_e_nx rfl rfl,
  fun _ _ _ _ _ => sx_e_getf rfl rfl (by decide) rfl,
  fun _ _ _ _ _ => sx_e_alen rfl rfl,
  fun _ _ _ _ _ => sx_e_ige rfl (by decide) rfl,
  fun _ _ _ => sx_e_nx rfl rfl,
  fun _ _ _ _ => sx_e_getf rfl rfl (by decide) rfl,
  fun _ _ _ _ => sx_e_nx rfl rfl,
  fun _ _ _ _ _ => sx_e_iald rfl rfl,
  fun _ _ _ _ => sx_e_goto rfl (by decide),
  fun _ _ _ => sx_e_nx rfl rfl,
  fun _ _ _ _ => sx_e_ret rfl rfl rfl⟩
/-- 28: X3_has (I)Z -/
theorem c28_q (S : List Int32) : ∀ (a0 : Nat) (a1 : Int32) (h : sx_H), sx_Cl S 28 [.ref a0, .int a1] h = sx_Ev S 28 0 [some (.ref a0), some (.int a1)] [] h := fun _ _ _ => rfl
theorem q28 (S : List Int32) : (∀ (l0 : Option Value) (x : Int32) (h : sx_H), sx_Ev S 28 0 [l0, some (.int x)] [] h = sx_Ev S 28 1 [l0, some (.int x)] [.int x] h) ∧
  (∀ (l0 l1 : Option Value) (s0 : Int32) (h : sx_H), sx_Ev S 28 1 [l0, l1] [.int s0] h = if s0 < 0 then sx_Ev S 28 22 [l0, l1] [] h else sx_Ev S 28 4 [l0, l1] [] h) ∧
  (∀ (l0 : Option Value) (x : Int32) (h : sx_H), sx_Ev S 28 4 [l0, some (.int x)] [] h = sx_Ev S 28 5 [l0, some (.int x)] [.int x] h) ∧
  (∀ (l1 : Option Value) (s0 : Int32) (x : Nat) (h : sx_H), sx_Ev S 28 5 [some (.ref x), l1] [.int s0] h = sx_Ev S 28 6 [some (.ref x), l1] [.ref x, .int s0] h) ∧
  (∀ (l0 l1 : Option Value) (s0 : Nat) (s1 : Int32) (h : sx_H), sx_Ev S 28 6 [l0, l1] [.ref s0, .int s1] h = (sx_fld h s0 2 5).bind fun v => sx_Ev S 28 9 [l0, l1] [v, .int s1] h) ∧
  (∀ (l0 l1 : Option Value) (s0 : Int32) (s1 : Int32) (h : sx_H), sx_Ev S 28 9 [l0, l1] [.int s0, .int s1] h = if s1 < s0 then sx_Ev S 28 12 [l0, l1] [] h else sx_Ev S 28 22 [l0, l1] [] h) ∧
  (∀ (l0 : Option Value) (x : Int32) (h : sx_H), sx_Ev S 28 12 [l0, some (.int x)] [] h = sx_Ev S 28 13 [l0, some (.int x)] [.int x] h) ∧
  (∀ (l0 l1 : Option Value) (s0 : Int32) (h : sx_H), sx_Ev S 28 13 [l0, l1] [.int s0] h = sx_Ev S 28 15 [l0, l1] [.int (sz (8)), .int s0] h) ∧
  (∀ (l0 l1 : Option Value) (s0 : Int32) (s1 : Int32) (h : sx_H), sx_Ev S 28 15 [l0, l1] [.int s0, .int s1] h = if s1 < s0 then sx_Ev S 28 18 [l0, l1] [] h else sx_Ev S 28 22 [l0, l1] [] h) ∧
  (∀ (l0 l1 : Option Value) (h : sx_H), sx_Ev S 28 18 [l0, l1] [] h = sx_Ev S 28 19 [l0, l1] [.int (sz (1))] h) ∧
  (∀ (l0 l1 : Option Value) (s0 : Int32) (h : sx_H), sx_Ev S 28 19 [l0, l1] [.int s0] h = sx_Ev S 28 23 [l0, l1] [.int s0] h) ∧
  (∀ (l0 l1 : Option Value) (h : sx_H), sx_Ev S 28 22 [l0, l1] [] h = sx_Ev S 28 23 [l0, l1] [.int (sz (0))] h) ∧
  (∀ (l0 l1 : Option Value) (s0 : Int32) (h : sx_H), narrow .boolean (.int s0) = .int s0 → sx_Ev S 28 23 [l0, l1] [.int s0] h = some (.inl (some (.int s0)), h)) := ⟨fun _ _ _ => sx_e_nx rfl rfl,
  fun _ _ _ _ => sx_e_lt rfl (by decide) rfl,
  fun _ _ _ => sx_e_nx rfl rfl,
  fun _ _ _ _ => sx_e_nx rfl rfl,
  fun _ _ _ _ _ => sx_e_getf rfl rfl (by decide) rfl,
  fun _ _ _ _ _ => sx_e_ige rfl (by decide) rfl,
  fun _ _ _ => sx_e_nx rfl rfl,
  fun _ _ _ _ => sx_e_bi rfl (by decide +kernel) rfl,
  fun _ _ _ _ _ => sx_e_ige rfl (by decide) rfl,
  fun _ _ _ => sx_e_nx rfl rfl,
  fun _ _ _ _ => sx_e_goto rfl (by decide),
  fun _ _ _ => sx_e_nx rfl rfl,
  fun _ _ _ _ hv => sx_e_ret rfl rfl hv⟩
/-- 29: X3_colourOf (I)I -/
theorem c29_q (S : List Int32) : ∀ (a0 : Nat) (a1 : Int32) (h : sx_H), sx_Cl S 29 [.ref a0, .int a1] h = sx_Ev S 29 0 [some (.ref a0), some (.int a1)] [] h := fun _ _ _ => rfl
theorem q29 (S : List Int32) : (∀ (l1 : Option Value) (x : Nat) (h : sx_H), sx_Ev S 29 0 [some (.ref x), l1] [] h = sx_Ev S 29 1 [some (.ref x), l1] [.ref x] h) ∧
  (∀ (l0 : Option Value) (s0 : Nat) (x : Int32) (h : sx_H), sx_Ev S 29 1 [l0, some (.int x)] [.ref s0] h = sx_Ev S 29 2 [l0, some (.int x)] [.int x, .ref s0] h) ∧
  (∀ (l0 l1 : Option Value) (s0 : Int32) (s1 : Nat) (h : sx_H), sx_klass h s1 = some 2 → sx_Ev S 29 2 [l0, l1] [.int s0, .ref s1] h = sx_back S 29 2 [l0, l1] [] (sx_Cl S 28 [.ref s1, .int s0] h)) ∧
  (∀ (ls : sx_L) (st : List Value) (v : Value) (h : sx_H), sx_back S 29 2 ls st (some (.inl (some v), h)) = sx_Ev S 29 5 ls (v :: st) h) ∧
  (∀ (ls : sx_L) (st : List Value) (e : Nat) (h : sx_H), sx_back S 29 2 ls st (some (.inr e, h)) = some (.inr e, h)) ∧
  (∀ (l0 l1 : Option Value) (s0 : Int32) (h : sx_H), sx_Ev S 29 5 [l0, l1] [.int s0] h = if s0 = 0 then sx_Ev S 29 17 [l0, l1] [] h else sx_Ev S 29 8 [l0, l1] [] h) ∧
  (∀ (l1 : Option Value) (x : Nat) (h : sx_H), sx_Ev S 29 8 [some (.ref x), l1] [] h = sx_Ev S 29 9 [some (.ref x), l1] [.ref x] h) ∧
  (∀ (l0 l1 : Option Value) (s0 : Nat) (h : sx_H), sx_Ev S 29 9 [l0, l1] [.ref s0] h = (sx_fld h s0 2 0).bind fun v => sx_Ev S 29 12 [l0, l1] [v] h) ∧
  (∀ (l0 : Option Value) (s0 : Nat) (x : Int32) (h : sx_H), sx_Ev S 29 12 [l0, some (.int x)] [.ref s0] h = sx_Ev S 29 13 [l0, some (.int x)] [.int x, .ref s0] h) ∧
  (∀ (l0 l1 : Option Value) (s0 : Int32) (s1 : Nat) (h : sx_H), sx_Ev S 29 13 [l0, l1] [.int s0, .ref s1] h = (sx_rd S h s1 s0).bind fun v => sx_Ev S 29 14 [l0, l1] [.int v] h) ∧
  (∀ (l0 l1 : Option Value) (s0 : Int32) (h : sx_H), sx_Ev S 29 14 [l0, l1] [.int s0] h = sx_Ev S 29 18 [l0, l1] [.int s0] h) ∧
  (∀ (l0 l1 : Option Value) (h : sx_H), sx_Ev S 29 17 [l0, l1] [] h = sx_Ev S 29 18 [l0, l1] [.int (sz (-1))] h) ∧
  (∀ (l0 l1 : Option Value) (s0 : Int32) (h : sx_H), sx_Ev S 29 18 [l0, l1] [.int s0] h = some (.inl (some (.int s0)), h)) := ⟨fun _ _ _ => sx_e_nx rfl rfl,
  fun _ _ _ _ => sx_e_nx rfl rfl,
  fun _ _ _ _ _ hv => sx_e_virt rfl rfl ⟨Nat.le_of_ble_eq_true rfl, Nat.le_of_ble_eq_true rfl, rfl⟩ rfl rfl rfl hv,
  fun _ _ _ _ => rfl,
  fun _ _ _ _ => rfl,
  fun _ _ _ _ => sx_e_eq rfl (by decide) rfl,
  fun _ _ _ => sx_e_nx rfl rfl,
  fun _ _ _ _ => sx_e_getf rfl rfl (by decide) rfl,
  fun _ _ _ _ => sx_e_nx rfl rfl,
  fun _ _ _ _ _ => sx_e_iald rfl rfl,
  fun _ _ _ _ => sx_e_goto rfl (by decide),
  fun _ _ _ => sx_e_nx rfl rfl,
  fun _ _ _ _ => sx_e_ret rfl rfl rfl⟩
/-- 30: X1_put (II)V -/
theorem c30_q (S : List Int32) : ∀ (a0 : Nat) (a1 : Int32) (a2 : Int32) (h : sx_H), sx_Cl S 30 [.ref a0, .int a1, .int a2] h = sx_Ev S 30 0 [some (.ref a0), some (.int a1), some (.int a2)] [] h := fun _ _ _ _ => rfl
theorem q30 (S : List Int32) : (∀ (l0 l2 : Option Value) (x : Int32) (h : sx_H), sx_Ev S 30 0 [l0, some (.int x), l2] [] h = sx_Ev S 30 1 [l0, some (.int x), l2] [.int x] h) ∧
  (∀ (l0 l1 l2 : Option Value) (s0 : Int32) (h : sx_H), sx_Ev S 30 1 [l0, l1, l2] [.int s0] h = if s0 < 0 then sx_Ev S 30 43 [l0, l1, l2] [] h else sx_Ev S 30 4 [l0, l1, l2] [] h) ∧
  (∀ (l0 l2 : Option Value) (x : Int32) (h : sx_H), sx_Ev S 30 4 [l0, some (.int x), l2] [] h = sx_Ev S 30 5 [l0, some (.int x), l2] [.int x] h) ∧
  (∀ (l1 l2 : Option Value) (s0 : Int32) (x : Nat) (h : sx_H), sx_Ev S 30 5 [some (.ref x), l1, l2] [.int s0] h = sx_Ev S 30 6 [some (.ref x), l1, l2] [.ref x, .int s0] h) ∧
  (∀ (l0 l1 l2 : Option Value) (s0 : Nat) (s1 : Int32) (h : sx_H), sx_Ev S 30 6 [l0, l1, l2] [.ref s0, .int s1] h = (sx_fld h s0 0 5).bind fun v => sx_Ev S 30 9 [l0, l1, l2] [v, .int s1] h) ∧
  (∀ (l0 l1 l2 : Option Value) (s0 : Nat) (s1 : Int32) (h : sx_H), sx_Ev S 30 9 [l0, l1, l2] [.ref s0, .int s1] h = (sx_ints S h s0).bind fun v => sx_Ev S 30 10 [l0, l1, l2] [.int (Int32.ofNat v.length), .int s1] h) ∧
  (∀ (l0 l1 l2 : Option Value) (s0 : Int32) (s1 : Int32) (h : sx_H), sx_Ev S 30 10 [l0, l1, l2] [.int s0, .int s1] h = if s1 < s0 then sx_Ev S 30 13 [l0, l1, l2] [] h else sx_Ev S 30 43 [l0, l1, l2] [] h) ∧
  (∀ (l0 l2 : Option Value) (x : Int32) (h : sx_H), sx_Ev S 30 13 [l0, some (.int x), l2] [] h = sx_Ev S 30 14 [l0, some (.int x), l2] [.int x] h) ∧
  (∀ (l1 l2 : Option Value) (s0 : Int32) (x : Nat) (h : sx_H), sx_Ev S 30 14 [some (.ref x), l1, l2] [.int s0] h = sx_Ev S 30 15 [some (.ref x), l1, l2] [.ref x, .int s0] h) ∧
  (∀ (l0 l1 l2 : Option Value) (s0 : Nat) (s1 : Int32) (h : sx_H), sx_Ev S 30 15 [l0, l1, l2] [.ref s0, .int s1] h = (sx_fld h s0 0 6).bind fun v => sx_Ev S 30 18 [l0, l1, l2] [v, .int s1] h) ∧
  (∀ (l0 l1 l2 : Option Value) (s0 : Nat) (s1 : Int32) (h : sx_H), sx_Ev S 30 18 [l0, l1, l2] [.ref s0, .int s1] h = (sx_ints S h s0).bind fun v => sx_Ev S 30 19 [l0, l1, l2] [.int (Int32.ofNat v.length), .int s1] h) ∧
  (∀ (l0 l1 l2 : Option Value) (s0 : Int32) (s1 : Int32) (h : sx_H), sx_Ev S 30 19 [l0, l1, l2] [.int s0, .int s1] h = if s1 < s0 then sx_Ev S 30 22 [l0, l1, l2] [] h else sx_Ev S 30 43 [l0, l1, l2] [] h) ∧
  (∀ (l1 l2 : Option Value) (x : Nat) (h : sx_H), sx_Ev S 30 22 [some (.ref x), l1, l2] [] h = sx_Ev S 30 23 [some (.ref x), l1, l2] [.ref x] h) ∧
  (∀ (l0 l1 l2 : Option Value) (s0 : Nat) (h : sx_H), sx_Ev S 30 23 [l0, l1, l2] [.ref s0] h = (sx_fld h s0 0 5).bind fun v => sx_Ev S 30 26 [l0, l1, l2] [v] h) ∧
  (∀ (l0 l2 : Option Value) (s0 : Nat) (x : Int32) (h : sx_H), sx_Ev S 30 26 [l0, some (.int x), l2] [.ref s0] h = sx_Ev S 30 27 [l0, some (.int x), l2] [.int x, .ref s0] h) ∧
  (∀ (l0 l1 : Option Value) (s0 : Int32) (s1 : Nat) (x : Int32) (h : sx_H), sx_Ev S 30 27 [l0, l1, some (.int x)] [.int s0, .ref s1] h = sx_Ev S 30 28 [l0, l1, some (.int x)] [.int x, .int s0, .ref s1] h) ∧
  (∀ (l0 l1 l2 : Option Value) (s0 : Int32) (s1 : Int32) (s2 : Nat) (h : sx_H), sx_Ev S 30 28 [l0, l1, l2] [.int s0, .int s1, .ref s2] h = (sx_wr h s2 s1 s0).bind fun h => sx_Ev S 30 29 [l0, l1, l2] [] h) ∧
  (∀ (l1 l2 : Option Value) (x : Nat) (h : sx_H), sx_Ev S 30 29 [some (.ref x), l1, l2] [] h = sx_Ev S 30 30 [some (.ref x), l1, l2] [.ref x] h) ∧
  (∀ (l0 l1 l2 : Option Value) (s0 : Nat) (h : sx_H), sx_Ev S 30 30 [l0, l1, l2] [.ref s0] h = (sx_fld h s0 0 6).bind fun v => sx_Ev S 30 33 [l0, l1, l2] [v] h) ∧
  (∀ (l0 l2 : Option Value) (s0 : Nat) (x : Int32) (h : sx_H), sx_Ev S 30 33 [l0, some (.int x), l2] [.ref s0] h = sx_Ev S 30 34 [l0, some (.int x), l2] [.int x, .ref s0] h) ∧
  (∀ (l1 l2 : Option Value) (s0 : Int32) (s1 : Nat) (x : Nat) (h : sx_H), sx_Ev S 30 34 [some (.ref x), l1, l2] [.int s0, .ref s1] h = sx_Ev S 30 35 [some (.ref x), l1, l2] [.ref x, .int s0, .ref s1] h) ∧
  (∀ (l0 l1 l2 : Option Value) (s0 : Nat) (s1 : Int32) (s2 : Nat) (h : sx_H), sx_Ev S 30 35 [l0, l1, l2] [.ref s0, .int s1, .ref s2] h = (sx_fld h s0 0 0).bind fun v => sx_Ev S 30 38 [l0, l1, l2] [v, .int s1, .ref s2] h) ∧
  (∀ (l0 l1 : Option Value) (s0 : Nat) (s1 : Int32) (s2 : Nat) (x : Int32) (h : sx_H), sx_Ev S 30 38 [l0, l1, some (.int x)] [.ref s0, .int s1, .ref s2] h = sx_Ev S 30 39 [l0, l1, some (.int x)] [.int x, .ref s0, .int s1, .ref s2] h) ∧
  (∀ (l0 l1 l2 : Option Value) (s0 : Int32) (s1 : Nat) (s2 : Int32) (s3 : Nat) (h : sx_H), sx_klass h s1 = some 2 → sx_Ev S 30 39 [l0, l1, l2] [.int s0, .ref s1, .int s2, .ref s3] h = sx_back S 30 39 [l0, l1, l2] [.int s2, .ref s3] (sx_Cl S 29 [.ref s1, .int s0] h)) ∧
  (∀ (ls : sx_L) (st : List Value) (v : Value) (h : sx_H), sx_back S 30 39 ls st (some (.inl (some v), h)) = sx_Ev S 30 42 ls (v :: st) h) ∧
  (∀ (ls : sx_L) (st : List Value) (e : Nat) (h : sx_H), sx_back S 30 39 ls st (some (.inr e, h)) = some (.inr e, h)) ∧
  (∀ (l0 l1 l2 : Option Value) (s0 : Int32) (s1 : Int32) (s2 : Nat) (h : sx_H), sx_Ev S 30 42 [l0, l1, l2] [.int s0, .int s1, .ref s2] h = (sx_wr h s2 s1 s0).bind fun h => sx_Ev S 30 43 [l0, l1, l2] [] h) ∧
  (∀ (l0 l1 l2 : Option Value) (h : sx_H), sx_Ev S 30 43 [l0, l1, l2] [] h = some (.inl none, h)) := ⟨fun _ _ _ _ => sx_e_nx rfl rfl,
  fun _ _ _ _ _ => sx_e_lt rfl (by decide) rfl,
  fun _ _ _ _ => sx_e_nx rfl rfl,
  fun _ _ _ _ _ => sx_e_nx rfl rfl,
  fun _ _ _ _ _ _ => sx_e_getf rfl rfl (by decide) rfl,
  fun _ _ _ _ _ _ => sx_e_alen rfl rfl,
  fun _ _ _ _ _ _ => sx_e_ige rfl (by decide) rfl,
  fun _ _ _ _ => sx_e_nx rfl rfl,
  fun _ _ _ _ _ => sx_e_nx rfl rfl,
  fun _ _ _ _ _ _ => sx_e_getf rfl rfl (by decide) rfl,
  fun _ _ _ _ _ _ => sx_e_alen rfl rfl,
  fun _ _ _ _ _ _ => sx_e_ige rfl (by decide) rfl,
  fun _ _ _ _ => sx_e_nx rfl rfl,
  fun _ _ _ _ _ => sx_e_getf rfl rfl (by decide) rfl,
  fun _ _ _ _ _ => sx_e_nx rfl rfl,
  fun _ _ _ _ _ _ => sx_e_nx rfl rfl,
  fun _ _ _ _ _ _ _ => sx_e_iast rfl rfl,
  fun _ _ _ _ => sx_e_nx rfl rfl,
  fun _ _ _ _ _ => sx_e_getf rfl rfl (by decide) rfl,
  fun _ _ _ _ _ => sx_e_nx rfl rfl,
  fun _ _ _ _ _ _ => sx_e_nx rfl rfl,
  fun _ _ _ _ _ _ _ => sx_e_getf rfl rfl (by decide) rfl,
  fun _ _ _ _ _ _ _ => sx_e_nx rfl rfl,
  fun _ _ _ _ _ _ _ _ hv => sx_e_virt rfl rfl ⟨Nat.le_of_ble_eq_true rfl, Nat.le_of_ble_eq_true rfl, rfl⟩ rfl rfl rfl hv,
  fun _ _ _ _ => rfl,
  fun _ _ _ _ => rfl,
  fun _ _ _ _ _ _ _ => sx_e_iast rfl rfl,
  fun _ _ _ _ => sx_e_dn rfl rfl⟩
/-- 31: X1_countOf (I)I -/
theorem c31_q (S : List Int32) : ∀ (a0 : Nat) (a1 : Int32) (h : sx_H), sx_Cl S 31 [.ref a0, .int a1] h = sx_Ev S 31 0 [some (.ref a0), some (.int a1), none, none] [] h := fun _ _ _ => rfl
theorem h31_4 (S : List Int32) : (∀ (l0 l1 l2 : Option Value) (x : Int32) (h : sx_H), sx_Ev S 31 4 [l0, l1, l2, some (.int x)] [] h = sx_Ev S 31 5 [l0, l1, l2, some (.int x)] [.int x] h) := fun _ _ _ _ _ => sx_e_nx rfl rfl
theorem q31 (S : List Int32) : (∀ (l0 l1 l2 l3 : Option Value) (h : sx_H), sx_Ev S 31 0 [l0, l1, l2, l3] [] h = sx_Ev S 31 1 [l0, l1, l2, l3] [.int (sz (0))] h) ∧
  (∀ (l0 l1 l2 l3 : Option Value) (s0 : Int32) (h : sx_H), sx_Ev S 31 1 [l0, l1, l2, l3] [.int s0] h = sx_Ev S 31 2 [l0, l1, some (.int s0), l3] [] h) ∧
  (∀ (l0 l1 l2 l3 : Option Value) (h : sx_H), sx_Ev S 31 2 [l0, l1, l2, l3] [] h = sx_Ev S 31 3 [l0, l1, l2, l3] [.int (sz (0))] h) ∧
  (∀ (l0 l1 l2 l3 : Option Value) (s0 : Int32) (h : sx_H), sx_Ev S 31 3 [l0, l1, l2, l3] [.int s0] h = sx_Ev S 31 4 [l0, l1, l2, some (.int s0)] [] h) ∧
  (∀ (l1 l2 l3 : Option Value) (s0 : Int32) (x : Nat) (h : sx_H), sx_Ev S 31 5 [some (.ref x), l1, l2, l3] [.int s0] h = sx_Ev S 31 6 [some (.ref x), l1, l2, l3] [.ref x, .int s0] h) ∧
  (∀ (l0 l1 l2 l3 : Option Value) (s0 : Nat) (s1 : Int32) (h : sx_H), sx_klass h s0 = some 0 → sx_Ev S 31 6 [l0, l1, l2, l3] [.ref s0, .int s1] h = sx_back S 31 6 [l0, l1, l2, l3] [.int s1] (sx_Cl S 8 [.ref s0] h)) ∧
  (∀ (ls : sx_L) (st : List Value) (v : Value) (h : sx_H), sx_back S 31 6 ls st (some (.inl (some v), h)) = sx_Ev S 31 9 ls (v :: st) h) ∧
  (∀ (ls : sx_L) (st : List Value) (e : Nat) (h : sx_H), sx_back S 31 6 ls st (some (.inr e, h)) = some (.inr e, h)) ∧
  (∀ (l0 l1 l2 l3 : Option Value) (s0 : Int32) (s1 : Int32) (h : sx_H), sx_Ev S 31 9 [l0, l1, l2, l3] [.int s0, .int s1] h = if s1 < s0 then sx_Ev S 31 12 [l0, l1, l2, l3] [] h else sx_Ev S 31 30 [l0, l1, l2, l3] [] h) ∧
  (∀ (l1 l2 l3 : Option Value) (x : Nat) (h : sx_H), sx_Ev S 31 12 [some (.ref x), l1, l2, l3] [] h = sx_Ev S 31 13 [some (.ref x), l1, l2, l3] [.ref x] h) ∧
  (∀ (l0 l1 l2 : Option Value) (s0 : Nat) (x : Int32) (h : sx_H), sx_Ev S 31 13 [l0, l1, l2, some (.int x)] [.ref s0] h = sx_Ev S 31 14 [l0, l1, l2, some (.int x)] [.int x, .ref s0] h) ∧
  (∀ (l0 l1 l2 l3 : Option Value) (s0 : Int32) (s1 : Nat) (h : sx_H), sx_klass h s1 = some 0 → sx_Ev S 31 14 [l0, l1, l2, l3] [.int s0, .ref s1] h = sx_back S 31 14 [l0, l1, l2, l3] [] (sx_Cl S 27 [.ref s1, .int s0] h)) ∧
  (∀ (ls : sx_L) (st : List Value) (v : Value) (h : sx_H), sx_back S 31 14 ls st (some (.inl (some v), h)) = sx_Ev S 31 17 ls (v :: st) h) ∧
  (∀ (ls : sx_L) (st : List Value) (e : Nat) (h : sx_H), sx_back S 31 14 ls st (some (.inr e, h)) = some (.inr e, h)) ∧
  (∀ (l0 l2 l3 : Option Value) (s0 : Int32) (x : Int32) (h : sx_H), sx_Ev S 31 17 [l0, some (.int x), l2, l3] [.int s0] h = sx_Ev S 31 18 [l0, some (.int x), l2, l3] [.int x, .int s0] h) ∧
  (∀ (l0 l1 l2 l3 : Option Value) (s0 : Int32) (s1 : Int32) (h : sx_H), sx_Ev S 31 18 [l0, l1, l2, l3] [.int s0, .int s1] h = if s1 = s0 then sx_Ev S 31 21 [l0, l1, l2, l3] [] h else sx_Ev S 31 24 [l0, l1, l2, l3] [] h) ∧
  (∀ (l0 l1 l3 : Option Value) (x : Int32) (h : sx_H), sx_Ev S 31 21 [l0, l1, some (.int x), l3] [] h = sx_Ev S 31 24 [l0, l1, some (.int (x + sz (1))), l3] [] h) ∧
  (∀ (l0 l1 l2 : Option Value) (x : Int32) (h : sx_H), sx_Ev S 31 24 [l0, l1, l2, some (.int x)] [] h = sx_Ev S 31 27 [l0, l1, l2, some (.int (x + sz (1)))] [] h) ∧
  (∀ (l0 l1 l2 l3 : Option Value) (h : sx_H), sx_Ev S 31 27 [l0, l1, l2, l3] [] h = sx_Ev S 31 4 [l0, l1, l2, l3] [] h) ∧
  (∀ (l0 l1 l3 : Option Value) (x : Int32) (h : sx_H), sx_Ev S 31 30 [l0, l1, some (.int x), l3] [] h = sx_Ev S 31 31 [l0, l1, some (.int x), l3] [.int x] h) ∧
  (∀ (l0 l1 l2 l3 : Option Value) (s0 : Int32) (h : sx_H), sx_Ev S 31 31 [l0, l1, l2, l3] [.int s0] h = some (.inl (some (.int s0)), h)) := ⟨fun _ _ _ _ _ => sx_e_nx rfl rfl,
  fun _ _ _ _ _ _ => sx_e_nx rfl rfl,
  fun _ _ _ _ _ => sx_e_nx rfl rfl,
  fun _ _ _ _ _ _ => sx_e_nx rfl rfl,
  fun _ _ _ _ _ _ => sx_e_nx rfl rfl,
  fun _ _ _ _ _ _ _ hv => sx_e_virt rfl rfl ⟨Nat.le_of_ble_eq_true rfl, Nat.le_of_ble_eq_true rfl, rfl⟩ rfl rfl rfl hv,
  fun _ _ _ _ => rfl,
  fun _ _ _ _ => rfl,
  fun _ _ _ _ _ _ _ => sx_e_ige rfl (by decide) rfl,
  fun _ _ _ _ _ => sx_e_nx rfl rfl,
  fun _ _ _ _ _ _ => sx_e_nx rfl rfl,
  fun _ _ _ _ _ _ _ hv => sx_e_virt rfl rfl ⟨Nat.le_of_ble_eq_true rfl, Nat.le_of_ble_eq_true rfl, rfl⟩ rfl rfl rfl hv,
  fun _ _ _ _ => rfl,
  fun _ _ _ _ => rfl,
  fun _ _ _ _ _ _ => sx_e_nx rfl rfl,
  fun _ _ _ _ _ _ _ => sx_e_ine rfl (by decide) rfl,
  fun _ _ _ _ _ => sx_e_nx rfl rfl,
  fun _ _ _ _ _ => sx_e_nx rfl rfl,
  fun _ _ _ _ _ => sx_e_goto rfl (by decide),
  fun _ _ _ _ _ => sx_e_nx rfl rfl,
  fun _ _ _ _ _ _ => sx_e_ret rfl rfl rfl⟩
/-- 32: X3_widthOf (I)I -/
theorem c32_q (S : List Int32) : ∀ (a0 : Nat) (a1 : Int32) (h : sx_H), sx_Cl S 32 [.ref a0, .int a1] h = sx_Ev S 32 0 [some (.ref a0), some (.int a1)] [] h := fun _ _ _ => rfl
theorem q32 (S : List Int32) : (∀ (l1 : Option Value) (x : Nat) (h : sx_H), sx_Ev S 32 0 [some (.ref x), l1] [] h = sx_Ev S 32 1 [some (.ref x), l1] [.ref x] h) ∧
  (∀ (l0 : Option Value) (s0 : Nat) (x : Int32) (h : sx_H), sx_Ev S 32 1 [l0, some (.int x)] [.ref s0] h = sx_Ev S 32 2 [l0, some (.int x)] [.int x, .ref s0] h) ∧
  (∀ (l0 l1 : Option Value) (s0 : Int32) (s1 : Nat) (h : sx_H), sx_klass h s1 = some 2 → sx_Ev S 32 2 [l0, l1] [.int s0, .ref s1] h = sx_back S 32 2 [l0, l1] [] (sx_Cl S 28 [.ref s1, .int s0] h)) ∧
  (∀ (ls : sx_L) (st : List Value) (v : Value) (h : sx_H), sx_back S 32 2 ls st (some (.inl (some v), h)) = sx_Ev S 32 5 ls (v :: st) h) ∧
  (∀ (ls : sx_L) (st : List Value) (e : Nat) (h : sx_H), sx_back S 32 2 ls st (some (.inr e, h)) = some (.inr e, h)) ∧
  (∀ (l0 l1 : Option Value) (s0 : Int32) (h : sx_H), sx_Ev S 32 5 [l0, l1] [.int s0] h = if s0 = 0 then sx_Ev S 32 17 [l0, l1] [] h else sx_Ev S 32 8 [l0, l1] [] h) ∧
  (∀ (l1 : Option Value) (x : Nat) (h : sx_H), sx_Ev S 32 8 [some (.ref x), l1] [] h = sx_Ev S 32 9 [some (.ref x), l1] [.ref x] h) ∧
  (∀ (l0 l1 : Option Value) (s0 : Nat) (h : sx_H), sx_Ev S 32 9 [l0, l1] [.ref s0] h = (sx_fld h s0 2 1).bind fun v => sx_Ev S 32 12 [l0, l1] [v] h) ∧
  (∀ (l0 : Option Value) (s0 : Nat) (x : Int32) (h : sx_H), sx_Ev S 32 12 [l0, some (.int x)] [.ref s0] h = sx_Ev S 32 13 [l0, some (.int x)] [.int x, .ref s0] h) ∧
  (∀ (l0 l1 : Option Value) (s0 : Int32) (s1 : Nat) (h : sx_H), sx_Ev S 32 13 [l0, l1] [.int s0, .ref s1] h = (sx_rd S h s1 s0).bind fun v => sx_Ev S 32 14 [l0, l1] [.int v] h) ∧
  (∀ (l0 l1 : Option Value) (s0 : Int32) (h : sx_H), sx_Ev S 32 14 [l0, l1] [.int s0] h = sx_Ev S 32 18 [l0, l1] [.int s0] h) ∧
  (∀ (l0 l1 : Option Value) (h : sx_H), sx_Ev S 32 17 [l0, l1] [] h = sx_Ev S 32 18 [l0, l1] [.int (sz (0))] h) ∧
  (∀ (l0 l1 : Option Value) (s0 : Int32) (h : sx_H), sx_Ev S 32 18 [l0, l1] [.int s0] h = some (.inl (some (.int s0)), h)) := ⟨fun _ _ _ => sx_e_nx rfl rfl,
  fun _ _ _ _ => sx_e_nx rfl rfl,
  fun _ _ _ _ _ hv => sx_e_virt rfl rfl ⟨Nat.le_of_ble_eq_true rfl, Nat.le_of_ble_eq_true rfl, rfl⟩ rfl rfl rfl hv,
  fun _ _ _ _ => rfl,
  fun _ _ _ _ => rfl,
  fun _ _ _ _ => sx_e_eq rfl (by decide) rfl,
  fun _ _ _ => sx_e_nx rfl rfl,
  fun _ _ _ _ => sx_e_getf rfl rfl (by decide) rfl,
  fun _ _ _ _ => sx_e_nx rfl rfl,
  fun _ _ _ _ _ => sx_e_iald rfl rfl,
  fun _ _ _ _ => sx_e_goto rfl (by decide),
  fun _ _ _ => sx_e_nx rfl rfl,
  fun _ _ _ _ => sx_e_ret rfl rfl rfl⟩
/-- 33: X1_widthOfRow (I)I -/
theorem c33_q (S : List Int32) : ∀ (a0 : Nat) (a1 : Int32) (h : sx_H), sx_Cl S 33 [.ref a0, .int a1] h = sx_Ev S 33 0 [some (.ref a0), some (.int a1), none, none] [] h := fun _ _ _ => rfl
theorem h33_4 (S : List Int32) : (∀ (l0 l1 l2 : Option Value) (x : Int32) (h : sx_H), sx_Ev S 33 4 [l0, l1, l2, some (.int x)] [] h = sx_Ev S 33 5 [l0, l1, l2, some (.int x)] [.int x] h) := fun _ _ _ _ _ => sx_e_nx rfl rfl
theorem q33 (S : List Int32) : (∀ (l0 l1 l2 l3 : Option Value) (h : sx_H), sx_Ev S 33 0 [l0, l1, l2, l3] [] h = sx_Ev S 33 1 [l0, l1, l2, l3] [.int (sz (0))] h) ∧
  (∀ (l0 l1 l2 l3 : Option Value) (s0 : Int32) (h : sx_H), sx_Ev S 33 1 [l0, l1, l2, l3] [.int s0] h = sx_Ev S 33 2 [l0, l1, some (.int s0), l3] [] h) ∧
  (∀ (l0 l1 l2 l3 : Option Value) (h : sx_H), sx_Ev S 33 2 [l0, l1, l2, l3] [] h = sx_Ev S 33 3 [l0, l1, l2, l3] [.int (sz (0))] h) ∧
  (∀ (l0 l1 l2 l3 : Option Value) (s0 : Int32) (h : sx_H), sx_Ev S 33 3 [l0, l1, l2, l3] [.int s0] h = sx_Ev S 33 4 [l0, l1, l2, some (.int s0)] [] h) ∧
  (∀ (l1 l2 l3 : Option Value) (s0 : Int32) (x : Nat) (h : sx_H), sx_Ev S 33 5 [some (.ref x), l1, l2, l3] [.int s0] h = sx_Ev S 33 6 [some (.ref x), l1, l2, l3] [.ref x, .int s0] h) ∧
  (∀ (l0 l1 l2 l3 : Option Value) (s0 : Nat) (s1 : Int32) (h : sx_H), sx_Ev S 33 6 [l0, l1, l2, l3] [.ref s0, .int s1] h = (sx_fld h s0 0 2).bind fun v => sx_Ev S 33 9 [l0, l1, l2, l3] [v, .int s1] h) ∧
  (∀ (l0 l1 l2 l3 : Option Value) (s0 : Int32) (s1 : Int32) (h : sx_H), sx_Ev S 33 9 [l0, l1, l2, l3] [.int s0, .int s1] h = if s1 < s0 then sx_Ev S 33 12 [l0, l1, l2, l3] [] h else sx_Ev S 33 38 [l0, l1, l2, l3] [] h) ∧
  (∀ (l0 l1 l3 : Option Value) (x : Int32) (h : sx_H), sx_Ev S 33 12 [l0, l1, some (.int x), l3] [] h = sx_Ev S 33 13 [l0, l1, some (.int x), l3] [.int x] h) ∧
  (∀ (l1 l2 l3 : Option Value) (s0 : Int32) (x : Nat) (h : sx_H), sx_Ev S 33 13 [some (.ref x), l1, l2, l3] [.int s0] h = sx_Ev S 33 14 [some (.ref x), l1, l2, l3] [.ref x, .int s0] h) ∧
  (∀ (l0 l1 l2 l3 : Option Value) (s0 : Nat) (s1 : Int32) (h : sx_H), sx_Ev S 33 14 [l0, l1, l2, l3] [.ref s0, .int s1] h = (sx_fld h s0 0 0).bind fun v => sx_Ev S 33 17 [l0, l1, l2, l3] [v, .int s1] h) ∧
  (∀ (l1 l2 l3 : Option Value) (s0 : Nat) (s1 : Int32) (x : Nat) (h : sx_H), sx_Ev S 33 17 [some (.ref x), l1, l2, l3] [.ref s0, .int s1] h = sx_Ev S 33 18 [some (.ref x), l1, l2, l3] [.ref x, .ref s0, .int s1] h) ∧
  (∀ (l1 l2 l3 : Option Value) (s0 : Nat) (s1 : Nat) (s2 : Int32) (x : Nat) (h : sx_H), sx_Ev S 33 18 [some (.ref x), l1, l2, l3] [.ref s0, .ref s1, .int s2] h = sx_Ev S 33 19 [some (.ref x), l1, l2, l3] [.ref x, .ref s0, .ref s1, .int s2] h) ∧
  (∀ (l0 l2 l3 : Option Value) (s0 : Nat) (s1 : Nat) (s2 : Nat) (s3 : Int32) (x : Int32) (h : sx_H), sx_Ev S 33 19 [l0, some (.int x), l2, l3] [.ref s0, .ref s1, .ref s2, .int s3] h = sx_Ev S 33 20 [l0, some (.int x), l2, l3] [.int x, .ref s0, .ref s1, .ref s2, .int s3] h) ∧
  (∀ (l0 l1 l2 : Option Value) (s0 : Int32) (s1 : Nat) (s2 : Nat) (s3 : Nat) (s4 : Int32) (x : Int32) (h : sx_H), sx_Ev S 33 20 [l0, l1, l2, some (.int x)] [.int s0, .ref s1, .ref s2, .ref s3, .int s4] h = sx_Ev S 33 21 [l0, l1, l2, some (.int x)] [.int x, .int s0, .ref s1, .ref s2, .ref s3, .int s4] h) ∧
  (∀ (l0 l1 l2 l3 : Option Value) (s0 : Int32) (s1 : Int32) (s2 : Nat) (s3 : Nat) (s4 : Nat) (s5 : Int32) (h : sx_H), sx_klass h s2 = some 0 → sx_Ev S 33 21 [l0, l1, l2, l3] [.int s0, .int s1, .ref s2, .ref s3, .ref s4, .int s5] h = sx_back S 33 21 [l0, l1, l2, l3] [.ref s3, .ref s4, .int s5] (sx_Cl S 26 [.ref s2, .int s1, .int s0] h)) ∧
  (∀ (ls : sx_L) (st : List Value) (v : Value) (h : sx_H), sx_back S 33 21 ls st (some (.inl (some v), h)) = sx_Ev S 33 24 ls (v :: st) h) ∧
  (∀ (ls : sx_L) (st : List Value) (e : Nat) (h : sx_H), sx_back S 33 21 ls st (some (.inr e, h)) = some (.inr e, h)) ∧
  (∀ (l0 l1 l2 l3 : Option Value) (s0 : Int32) (s1 : Nat) (s2 : Nat) (s3 : Int32) (h : sx_H), sx_klass h s1 = some 0 → sx_Ev S 33 24 [l0, l1, l2, l3] [.int s0, .ref s1, .ref s2, .int s3] h = sx_back S 33 24 [l0, l1, l2, l3] [.ref s2, .int s3] (sx_Cl S 27 [.ref s1, .int s0] h)) ∧
  (∀ (ls : sx_L) (st : List Value) (v : Value) (h : sx_H), sx_back S 33 24 ls st (some (.inl (some v), h)) = sx_Ev S 33 27 ls (v :: st) h) ∧
  (∀ (ls : sx_L) (st : List Value) (e : Nat) (h : sx_H), sx_back S 33 24 ls st (some (.inr e, h)) = some (.inr e, h)) ∧
  (∀ (l0 l1 l2 l3 : Option Value) (s0 : Int32) (s1 : Nat) (s2 : Int32) (h : sx_H), sx_klass h s1 = some 2 → sx_Ev S 33 27 [l0, l1, l2, l3] [.int s0, .ref s1, .int s2] h = sx_back S 33 27 [l0, l1, l2, l3] [.int s2] (sx_Cl S 32 [.ref s1, .int s0] h)) ∧
  (∀ (ls : sx_L) (st : List Value) (v : Value) (h : sx_H), sx_back S 33 27 ls st (some (.inl (some v), h)) = sx_Ev S 33 30 ls (v :: st) h) ∧
  (∀ (ls : sx_L) (st : List Value) (e : Nat) (h : sx_H), sx_back S 33 27 ls st (some (.inr e, h)) = some (.inr e, h)) ∧
  (∀ (l0 l1 l2 l3 : Option Value) (s0 : Int32) (s1 : Int32) (h : sx_H), sx_Ev S 33 30 [l0, l1, l2, l3] [.int s0, .int s1] h = sx_Ev S 33 31 [l0, l1, l2, l3] [.int (s1 + s0)] h) ∧
  (∀ (l0 l1 l2 l3 : Option Value) (s0 : Int32) (h : sx_H), sx_Ev S 33 31 [l0, l1, l2, l3] [.int s0] h = sx_Ev S 33 32 [l0, l1, some (.int s0), l3] [] h) ∧
  (∀ (l0 l1 l2 : Option Value) (x : Int32) (h : sx_H), sx_Ev S 33 32 [l0, l1, l2, some (.int x)] [] h = sx_Ev S 33 35 [l0, l1, l2, some (.int (x + sz (1)))] [] h) ∧
  (∀ (l0 l1 l2 l3 : Option Value) (h : sx_H), sx_Ev S 33 35 [l0, l1, l2, l3] [] h = sx_Ev S 33 4 [l0, l1, l2, l3] [] h) ∧
  (∀ (l0 l1 l3 : Option Value) (x : Int32) (h : sx_H), sx_Ev S 33 38 [l0, l1, some (.int x), l3] [] h = sx_Ev S 33 39 [l0, l1, some (.int x), l3] [.int x] h) ∧
  (∀ (l0 l1 l2 l3 : Option Value) (s0 : Int32) (h : sx_H), sx_Ev S 33 39 [l0, l1, l2, l3] [.int s0] h = some (.inl (some (.int s0)), h)) := ⟨fun _ _ _ _ _ => sx_e_nx rfl rfl,
  fun _ _ _ _ _ _ => sx_e_nx rfl rfl,
  fun _ _ _ _ _ => sx_e_nx rfl rfl,
  fun _ _ _ _ _ _ => sx_e_nx rfl rfl,
  fun _ _ _ _ _ _ => sx_e_nx rfl rfl,
  fun _ _ _ _ _ _ _ => sx_e_getf rfl rfl (by decide) rfl,
  fun _ _ _ _ _ _ _ => sx_e_ige rfl (by decide) rfl,
  fun _ _ _ _ _ => sx_e_nx rfl rfl,
  fun _ _ _ _ _ _ => sx_e_nx rfl rfl,
  fun _ _ _ _ _ _ _ => sx_e_getf rfl rfl (by decide) rfl,
  fun _ _ _ _ _ _ _ => sx_e_nx rfl rfl,
  fun _ _ _ _ _ _ _ _ => sx_e_nx rfl rfl,
  fun _ _ _ _ _ _ _ _ _ => sx_e_nx rfl rfl,
  fun _ _ _ _ _ _ _ _ _ _ => sx_e_nx rfl rfl,
  fun _ _ _ _ _ _ _ _ _ _ _ hv => sx_e_virt rfl rfl ⟨Nat.le_of_ble_eq_true rfl, Nat.le_of_ble_eq_true rfl, rfl⟩ rfl rfl rfl hv,
  fun _ _ _ _ => rfl,
  fun _ _ _ _ => rfl,
  fun _ _ _ _ _ _ _ _ _ hv => sx_e_virt rfl rfl ⟨Nat.le_of_ble_eq_true rfl, Nat.le_of_ble_eq_true rfl, rfl⟩ rfl rfl rfl hv,
  fun _ _ _ _ => rfl,
  fun _ _ _ _ => rfl,
  fun _ _ _ _ _ _ _ _ hv => sx_e_virt rfl rfl ⟨Nat.le_of_ble_eq_true rfl, Nat.le_of_ble_eq_true rfl, rfl⟩ rfl rfl rfl hv,
  fun _ _ _ _ => rfl,
  fun _ _ _ _ => rfl,
  fun _ _ _ _ _ _ _ => sx_e_nx rfl rfl,
  fun _ _ _ _ _ _ => sx_e_nx rfl rfl,
  fun _ _ _ _ _ => sx_e_nx rfl rfl,
  fun _ _ _ _ _ => sx_e_goto rfl (by decide),
  fun _ _ _ _ _ => sx_e_nx rfl rfl,
  fun _ _ _ _ _ _ => sx_e_ret rfl rfl rfl⟩
/-- 34: X1_hasEmptyWithin (II)Z -/
theorem c34_q (S : List Int32) : ∀ (a0 : Nat) (a1 : Int32) (a2 : Int32) (h : sx_H), sx_Cl S 34 [.ref a0, .int a1, .int a2] h = sx_Ev S 34 0 [some (.ref a0), some (.int a1), some (.int a2), none, none] [] h := fun _ _ _ _ => rfl
theorem h34_2 (S : List Int32) : (∀ (l0 l1 l2 l4 : Option Value) (x : Int32) (h : sx_H), sx_Ev S 34 2 [l0, l1, l2, some (.int x), l4] [] h = sx_Ev S 34 3 [l0, l1, l2, some (.int x), l4] [.int x] h) := fun _ _ _ _ _ _ => sx_e_nx rfl rfl
theorem h34_10 (S : List Int32) : (∀ (l0 l1 l2 l3 : Option Value) (x : Int32) (h : sx_H), sx_Ev S 34 10 [l0, l1, l2, l3, some (.int x)] [] h = sx_Ev S 34 12 [l0, l1, l2, l3, some (.int x)] [.int x] h) := fun _ _ _ _ _ _ => sx_e_nx rfl rfl
theorem q34 (S : List Int32) : (∀ (l0 l1 l2 l3 l4 : Option Value) (h : sx_H), sx_Ev S 34 0 [l0, l1, l2, l3, l4] [] h = sx_Ev S 34 1 [l0, l1, l2, l3, l4] [.int (sz (0))] h) ∧
  (∀ (l0 l1 l2 l3 l4 : Option Value) (s0 : Int32) (h : sx_H), sx_Ev S 34 1 [l0, l1, l2, l3, l4] [.int s0] h = sx_Ev S 34 2 [l0, l1, l2, some (.int s0), l4] [] h) ∧
  (∀ (l0 l1 l3 l4 : Option Value) (s0 : Int32) (x : Int32) (h : sx_H), sx_Ev S 34 3 [l0, l1, some (.int x), l3, l4] [.int s0] h = sx_Ev S 34 4 [l0, l1, some (.int x), l3, l4] [.int x, .int s0] h) ∧
  (∀ (l0 l1 l2 l3 l4 : Option Value) (s0 : Int32) (s1 : Int32) (h : sx_H), sx_Ev S 34 4 [l0, l1, l2, l3, l4] [.int s0, .int s1] h = if s1 < s0 then sx_Ev S 34 7 [l0, l1, l2, l3, l4] [] h else sx_Ev S 34 45 [l0, l1, l2, l3, l4] [] h) ∧
  (∀ (l0 l1 l2 l3 l4 : Option Value) (h : sx_H), sx_Ev S 34 7 [l0, l1, l2, l3, l4] [] h = sx_Ev S 34 8 [l0, l1, l2, l3, l4] [.int (sz (0))] h) ∧
  (∀ (l0 l1 l2 l3 l4 : Option Value) (s0 : Int32) (h : sx_H), sx_Ev S 34 8 [l0, l1, l2, l3, l4] [.int s0] h = sx_Ev S 34 10 [l0, l1, l2, l3, some (.int s0)] [] h) ∧
  (∀ (l0 l2 l3 l4 : Option Value) (s0 : Int32) (x : Int32) (h : sx_H), sx_Ev S 34 12 [l0, some (.int x), l2, l3, l4] [.int s0] h = sx_Ev S 34 13 [l0, some (.int x), l2, l3, l4] [.int x, .int s0] h) ∧
  (∀ (l0 l1 l2 l3 l4 : Option Value) (s0 : Int32) (s1 : Int32) (h : sx_H), sx_Ev S 34 13 [l0, l1, l2, l3, l4] [.int s0, .int s1] h = if s1 < s0 then sx_Ev S 34 16 [l0, l1, l2, l3, l4] [] h else sx_Ev S 34 39 [l0, l1, l2, l3, l4] [] h) ∧
  (∀ (l1 l2 l3 l4 : Option Value) (x : Nat) (h : sx_H), sx_Ev S 34 16 [some (.ref x), l1, l2, l3, l4] [] h = sx_Ev S 34 17 [some (.ref x), l1, l2, l3, l4] [.ref x] h) ∧
  (∀ (l1 l2 l3 l4 : Option Value) (s0 : Nat) (x : Nat) (h : sx_H), sx_Ev S 34 17 [some (.ref x), l1, l2, l3, l4] [.ref s0] h = sx_Ev S 34 18 [some (.ref x), l1, l2, l3, l4] [.ref x, .ref s0] h) ∧
  (∀ (l0 l1 l2 l4 : Option Value) (s0 : Nat) (s1 : Nat) (x : Int32) (h : sx_H), sx_Ev S 34 18 [l0, l1, l2, some (.int x), l4] [.ref s0, .ref s1] h = sx_Ev S 34 19 [l0, l1, l2, some (.int x), l4] [.int x, .ref s0, .ref s1] h) ∧
  (∀ (l0 l1 l2 l3 : Option Value) (s0 : Int32) (s1 : Nat) (s2 : Nat) (x : Int32) (h : sx_H), sx_Ev S 34 19 [l0, l1, l2, l3, some (.int x)] [.int s0, .ref s1, .ref s2] h = sx_Ev S 34 21 [l0, l1, l2, l3, some (.int x)] [.int x, .int s0, .ref s1, .ref s2] h) ∧
  (∀ (l0 l1 l2 l3 l4 : Option Value) (s0 : Int32) (s1 : Int32) (s2 : Nat) (s3 : Nat) (h : sx_H), sx_klass h s2 = some 0 → sx_Ev S 34 21 [l0, l1, l2, l3, l4] [.int s0, .int s1, .ref s2, .ref s3] h = sx_back S 34 21 [l0, l1, l2, l3, l4] [.ref s3] (sx_Cl S 26 [.ref s2, .int s1, .int s0] h)) ∧
  (∀ (ls : sx_L) (st : List Value) (v : Value) (h : sx_H), sx_back S 34 21 ls st (some (.inl (some v), h)) = sx_Ev S 34 24 ls (v :: st) h) ∧
  (∀ (ls : sx_L) (st : List Value) (e : Nat) (h : sx_H), sx_back S 34 21 ls st (some (.inr e, h)) = some (.inr e, h)) ∧
  (∀ (l0 l1 l2 l3 l4 : Option Value) (s0 : Int32) (s1 : Nat) (h : sx_H), sx_klass h s1 = some 0 → sx_Ev S 34 24 [l0, l1, l2, l3, l4] [.int s0, .ref s1] h = sx_back S 34 24 [l0, l1, l2, l3, l4] [] (sx_Cl S 27 [.ref s1, .int s0] h)) ∧
  (∀ (ls : sx_L) (st : List Value) (v : Value) (h : sx_H), sx_back S 34 24 ls st (some (.inl (some v), h)) = sx_Ev S 34 27 ls (v :: st) h) ∧
  (∀ (ls : sx_L) (st : List Value) (e : Nat) (h : sx_H), sx_back S 34 24 ls st (some (.inr e, h)) = some (.inr e, h)) ∧
  (∀ (l0 l1 l2 l3 l4 : Option Value) (s0 : Int32) (h : sx_H), sx_Ev S 34 27 [l0, l1, l2, l3, l4] [.int s0] h = sx_Ev S 34 28 [l0, l1, l2, l3, l4] [.int (sz (-1)), .int s0] h) ∧
  (∀ (l0 l1 l2 l3 l4 : Option Value) (s0 : Int32) (s1 : Int32) (h : sx_H), sx_Ev S 34 28 [l0, l1, l2, l3, l4] [.int s0, .int s1] h = if s1 = s0 then sx_Ev S 34 31 [l0, l1, l2, l3, l4] [] h else sx_Ev S 34 33 [l0, l1, l2, l3, l4] [] h) ∧
  (∀ (l0 l1 l2 l3 l4 : Option Value) (h : sx_H), sx_Ev S 34 31 [l0, l1, l2, l3, l4] [] h = sx_Ev S 34 32 [l0, l1, l2, l3, l4] [.int (sz (1))] h) ∧
  (∀ (l0 l1 l2 l3 l4 : Option Value) (s0 : Int32) (h : sx_H), narrow .boolean (.int s0) = .int s0 → sx_Ev S 34 32 [l0, l1, l2, l3, l4] [.int s0] h = some (.inl (some (.int s0)), h)) ∧
  (∀ (l0 l1 l2 l3 : Option Value) (x : Int32) (h : sx_H), sx_Ev S 34 33 [l0, l1, l2, l3, some (.int x)] [] h = sx_Ev S 34 36 [l0, l1, l2, l3, some (.int (x + sz (1)))] [] h) ∧
  (∀ (l0 l1 l2 l3 l4 : Option Value) (h : sx_H), sx_Ev S 34 36 [l0, l1, l2, l3, l4] [] h = sx_Ev S 34 10 [l0, l1, l2, l3, l4] [] h) ∧
  (∀ (l0 l1 l2 l4 : Option Value) (x : Int32) (h : sx_H), sx_Ev S 34 39 [l0, l1, l2, some (.int x), l4] [] h = sx_Ev S 34 42 [l0, l1, l2, some (.int (x + sz (1))), l4] [] h) ∧
  (∀ (l0 l1 l2 l3 l4 : Option Value) (h : sx_H), sx_Ev S 34 42 [l0, l1, l2, l3, l4] [] h = sx_Ev S 34 2 [l0, l1, l2, l3, l4] [] h) ∧
  (∀ (l0 l1 l2 l3 l4 : Option Value) (h : sx_H), sx_Ev S 34 45 [l0, l1, l2, l3, l4] [] h = sx_Ev S 34 46 [l0, l1, l2, l3, l4] [.int (sz (0))] h) ∧
  (∀ (l0 l1 l2 l3 l4 : Option Value) (s0 : Int32) (h : sx_H), narrow .boolean (.int s0) = .int s0 → sx_Ev S 34 46 [l0, l1, l2, l3, l4] [.int s0] h = some (.inl (some (.int s0)), h)) := ⟨fun _ _ _ _ _ _ => sx_e_nx rfl rfl,
  fun _ _ _ _ _ _ _ => sx_e_nx rfl rfl,
  fun _ _ _ _ _ _ _ => sx_e_nx rfl rfl,
  fun _ _ _ _ _ _ _ _ => sx_e_ige rfl (by decide) rfl,
  fun _ _ _ _ _ _ => sx_e_nx rfl rfl,
  fun _ _ _ _ _ _ _ => sx_e_nx rfl rfl,
  fun _ _ _ _ _ _ _ => sx_e_nx rfl rfl,
  fun _ _ _ _ _ _ _ _ => sx_e_ige rfl (by decide) rfl,
  fun _ _ _ _ _ _ => sx_e_nx rfl rfl,
  fun _ _ _ _ _ _ _ => sx_e_nx rfl rfl,
  fun _ _ _ _ _ _ _ _ => sx_e_nx rfl rfl,
  fun _ _ _ _ _ _ _ _ _ => sx_e_nx rfl rfl,
  fun _ _ _ _ _ _ _ _ _ _ hv => sx_e_virt rfl rfl ⟨Nat.le_of_ble_eq_true rfl, Nat.le_of_ble_eq_true rfl, rfl⟩ rfl rfl rfl hv,
  fun _ _ _ _ => rfl,
  fun _ _ _ _ => rfl,
  fun _ _ _ _ _ _ _ _ hv => sx_e_virt rfl rfl ⟨Nat.le_of_ble_eq_true rfl, Nat.le_of_ble_eq_true rfl, rfl⟩ rfl rfl rfl hv,
  fun _ _ _ _ => rfl,
  fun _ _ _ _ => rfl,
  fun _ _ _ _ _ _ _ => sx_e_nx rfl rfl,
  fun _ _ _ _ _ _ _ _ => sx_e_ine rfl (by decide) rfl,
  fun _ _ _ _ _ _ => sx_e_nx rfl rfl,
  fun _ _ _ _ _ _ _ hv => sx_e_ret rfl rfl hv,
  fun _ _ _ _ _ _ => sx_e_nx rfl rfl,
  fun _ _ _ _ _ _ => sx_e_goto rfl (by decide),
  fun _ _ _ _ _ _ => sx_e_nx rfl rfl,
  fun _ _ _ _ _ _ => sx_e_goto rfl (by decide),
  fun _ _ _ _ _ _ => sx_e_nx rfl rfl,
  fun _ _ _ _ _ _ _ hv => sx_e_ret rfl rfl hv⟩
