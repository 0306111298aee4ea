/-! EQUATIONS of the methods 66 to 97: printed by wip/p51/gen2.py -/
/-- 66: X10_requireRange (III)V -/
theorem c66_q (S : List Int32) : ∀ (a0 : Int32) (a1 : Int32) (a2 : Int32) (h : sx_H), sx_Cl S 66 [.int a0, .int a1, .int a2] h = sx_Ev S 66 0 [some (.int a0), some (.int a1), some (.int a2)] [] h := fun _ _ _ _ => rfl
theorem q66 (S : List Int32) : (∀ (l1 l2 : Option Value) (x : Int32) (h : sx_H), sx_Ev S 66 0 [some (.int x), l1, l2] [] h = sx_Ev S 66 1 [some (.int x), l1, l2] [.int x] h) ∧
  (∀ (l0 l2 : Option Value) (s0 : Int32) (x : Int32) (h : sx_H), sx_Ev S 66 1 [l0, some (.int x), l2] [.int s0] h = sx_Ev S 66 2 [l0, some (.int x), l2] [.int x, .int s0] h) ∧
  (∀ (l0 l1 l2 : Option Value) (s0 : Int32) (s1 : Int32) (h : sx_H), sx_Ev S 66 2 [l0, l1, l2] [.int s0, .int s1] h = if s1 < s0 then sx_Ev S 66 10 [l0, l1, l2] [] h else sx_Ev S 66 5 [l0, l1, l2] [] h) ∧
  (∀ (l1 l2 : Option Value) (x : Int32) (h : sx_H), sx_Ev S 66 5 [some (.int x), l1, l2] [] h = sx_Ev S 66 6 [some (.int x), l1, l2] [.int x] h) ∧
  (∀ (l0 l1 : Option Value) (s0 : Int32) (x : Int32) (h : sx_H), sx_Ev S 66 6 [l0, l1, some (.int x)] [.int s0] h = sx_Ev S 66 7 [l0, l1, some (.int x)] [.int x, .int s0] h) ∧
  (∀ (l0 l1 l2 : Option Value) (s0 : Int32) (s1 : Int32) (h : sx_H), sx_Ev S 66 7 [l0, l1, l2] [.int s0, .int s1] h = if s0 < s1 then sx_Ev S 66 10 [l0, l1, l2] [] h else sx_Ev S 66 21 [l0, l1, l2] [] h) ∧
  (∀ (l0 l1 l2 : Option Value) (h : sx_H), sx_Ev S 66 10 [l0, l1, l2] [] h = some (.inr 0, sx_push h none 6)) ∧
  (∀ (l0 l1 l2 : Option Value) (h : sx_H), sx_Ev S 66 21 [l0, l1, l2] [] h = some (.inl none, h)) := ⟨fun _ _ _ _ => sx_e_nx rfl rfl,
  fun _ _ _ _ _ => sx_e_nx rfl rfl,
  fun _ _ _ _ _ _ => sx_e_ilt rfl (by decide) rfl,
  fun _ _ _ _ => sx_e_nx rfl rfl,
  fun _ _ _ _ _ => sx_e_nx rfl rfl,
  fun _ _ _ _ _ _ => sx_e_ile rfl (by decide) rfl,
  fun _ _ _ _ => sx_e_dn rfl rfl,
  fun _ _ _ _ => sx_e_dn rfl rfl⟩
/-- 67: X10_addKind (IIII)I -/
theorem c67_q (S : List Int32) : ∀ (a0 : Nat) (a1 : Int32) (a2 : Int32) (a3 : Int32) (a4 : Int32) (h : sx_H), sx_Cl S 67 [.ref a0, .int a1, .int a2, .int a3, .int a4] h = sx_Ev S 67 0 [some (.ref a0), some (.int a1), some (.int a2), some (.int a3), some (.int a4)] [] h := fun _ _ _ _ _ _ => rfl
theorem q67 (S : List Int32) : (∀ (l0 l2 l3 l4 : Option Value) (x : Int32) (h : sx_H), sx_Ev S 67 0 [l0, some (.int x), l2, l3, l4] [] h = sx_Ev S 67 1 [l0, some (.int x), l2, l3, l4] [.int x] h) ∧
  (∀ (l0 l1 l2 l3 l4 : Option Value) (s0 : Int32) (h : sx_H), sx_Ev S 67 1 [l0, l1, l2, l3, l4] [.int s0] h = sx_Ev S 67 2 [l0, l1, l2, l3, l4] [.int (sz (0)), .int s0] h) ∧
  (∀ (l0 l1 l2 l3 l4 : Option Value) (s0 : Int32) (s1 : Int32) (h : sx_H), sx_Ev S 67 2 [l0, l1, l2, l3, l4] [.int s0, .int s1] h = sx_Ev S 67 4 [l0, l1, l2, l3, l4] [.int (sz (7)), .int s0, .int s1] h) ∧
  (∀ (l0 l1 l2 l3 l4 : Option Value) (s0 : Int32) (s1 : Int32) (s2 : Int32) (h : sx_H), sx_Ev S 67 4 [l0, l1, l2, l3, l4] [.int s0, .int s1, .int s2] h = sx_back S 67 4 [l0, l1, l2, l3, l4] [] (sx_Cl S 66 [.int s2, .int s1, .int s0] h)) ∧
  (∀ (ls : sx_L) (st : List Value) (h : sx_H), sx_back S 67 4 ls st (some (.inl none, h)) = sx_Ev S 67 7 ls st h) ∧
  (∀ (ls : sx_L) (st : List Value) (e : Nat) (h : sx_H), sx_back S 67 4 ls st (some (.inr e, h)) = some (.inr e, h)) ∧
  (∀ (l0 l1 l3 l4 : Option Value) (x : Int32) (h : sx_H), sx_Ev S 67 7 [l0, l1, some (.int x), l3, l4] [] h = sx_Ev S 67 8 [l0, l1, some (.int x), l3, l4] [.int x] h) ∧
  (∀ (l0 l1 l2 l3 l4 : Option Value) (s0 : Int32) (h : sx_H), sx_Ev S 67 8 [l0, l1, l2, l3, l4] [.int s0] h = sx_Ev S 67 10 [l0, l1, l2, l3, l4] [.int (sz (8)), .int s0] h) ∧
  (∀ (l0 l1 l2 l3 l4 : Option Value) (s0 : Int32) (s1 : Int32) (h : sx_H), sx_Ev S 67 10 [l0, l1, l2, l3, l4] [.int s0, .int s1] h = sx_Ev S 67 12 [l0, l1, l2, l3, l4] [.int (sz (30)), .int s0, .int s1] h) ∧
  (∀ (l0 l1 l2 l3 l4 : Option Value) (s0 : Int32) (s1 : Int32) (s2 : Int32) (h : sx_H), sx_Ev S 67 12 [l0, l1, l2, l3, l4] [.int s0, .int s1, .int s2] h = sx_back S 67 12 [l0, l1, l2, l3, l4] [] (sx_Cl S 66 [.int s2, .int s1, .int s0] h)) ∧
  (∀ (ls : sx_L) (st : List Value) (h : sx_H), sx_back S 67 12 ls st (some (.inl none, h)) = sx_Ev S 67 15 ls st h) ∧
  (∀ (ls : sx_L) (st : List Value) (e : Nat) (h : sx_H), sx_back S 67 12 ls st (some (.inr e, h)) = some (.inr e, h)) ∧
  (∀ (l0 l1 l2 l4 : Option Value) (x : Int32) (h : sx_H), sx_Ev S 67 15 [l0, l1, l2, some (.int x), l4] [] h = sx_Ev S 67 16 [l0, l1, l2, some (.int x), l4] [.int x] h) ∧
  (∀ (l0 l1 l2 l3 l4 : Option Value) (s0 : Int32) (h : sx_H), sx_Ev S 67 16 [l0, l1, l2, l3, l4] [.int s0] h = sx_Ev S 67 17 [l0, l1, l2, l3, l4] [.int (sz (2)), .int s0] h) ∧
  (∀ (l0 l1 l2 l3 l4 : Option Value) (s0 : Int32) (s1 : Int32) (h : sx_H), sx_Ev S 67 17 [l0, l1, l2, l3, l4] [.int s0, .int s1] h = sx_Ev S 67 19 [l0, l1, l2, l3, l4] [.int (sz (9)), .int s0, .int s1] h) ∧
  (∀ (l0 l1 l2 l3 l4 : Option Value) (s0 : Int32) (s1 : Int32) (s2 : Int32) (h : sx_H), sx_Ev S 67 19 [l0, l1, l2, l3, l4] [.int s0, .int s1, .int s2] h = sx_back S 67 19 [l0, l1, l2, l3, l4] [] (sx_Cl S 66 [.int s2, .int s1, .int s0] h)) ∧
  (∀ (ls : sx_L) (st : List Value) (h : sx_H), sx_back S 67 19 ls st (some (.inl none, h)) = sx_Ev S 67 22 ls st h) ∧
  (∀ (ls : sx_L) (st : List Value) (e : Nat) (h : sx_H), sx_back S 67 19 ls st (some (.inr e, h)) = some (.inr e, h)) ∧
  (∀ (l0 l1 l2 l3 : Option Value) (x : Int32) (h : sx_H), sx_Ev S 67 22 [l0, l1, l2, l3, some (.int x)] [] h = sx_Ev S 67 24 [l0, l1, l2, l3, some (.int x)] [.int x] h) ∧
  (∀ (l0 l1 l2 l3 l4 : Option Value) (s0 : Int32) (h : sx_H), sx_Ev S 67 24 [l0, l1, l2, l3, l4] [.int s0] h = sx_Ev S 67 25 [l0, l1, l2, l3, l4] [.int (sz (0)), .int s0] h) ∧
  (∀ (l0 l1 l2 l3 l4 : Option Value) (s0 : Int32) (s1 : Int32) (h : sx_H), sx_Ev S 67 25 [l0, l1, l2, l3, l4] [.int s0, .int s1] h = sx_Ev S 67 27 [l0, l1, l2, l3, l4] [.int (sz (99)), .int s0, .int s1] h) ∧
  (∀ (l0 l1 l2 l3 l4 : Option Value) (s0 : Int32) (s1 : Int32) (s2 : Int32) (h : sx_H), sx_Ev S 67 27 [l0, l1, l2, l3, l4] [.int s0, .int s1, .int s2] h = sx_back S 67 27 [l0, l1, l2, l3, l4] [] (sx_Cl S 66 [.int s2, .int s1, .int s0] h)) ∧
  (∀ (ls : sx_L) (st : List Value) (h : sx_H), sx_back S 67 27 ls st (some (.inl none, h)) = sx_Ev S 67 30 ls st h) ∧
  (∀ (ls : sx_L) (st : List Value) (e : Nat) (h : sx_H), sx_back S 67 27 ls st (some (.inr e, h)) = some (.inr e, h)) ∧
  (∀ (l1 l2 l3 l4 : Option Value) (x : Nat) (h : sx_H), sx_Ev S 67 30 [some (.ref x), l1, l2, l3, l4] [] h = sx_Ev S 67 31 [some (.ref x), l1, l2, l3, l4] [.ref x] h) ∧
  (∀ (l0 l1 l2 l3 l4 : Option Value) (s0 : Nat) (h : sx_H), sx_Ev S 67 31 [l0, l1, l2, l3, l4] [.ref s0] h = (sx_fld h s0 6 0).bind fun v => sx_Ev S 67 34 [l0, l1, l2, l3, l4] [v] h) ∧
  (∀ (l0 l1 l2 l3 l4 : Option Value) (s0 : Nat) (h : sx_H), sx_klass h s0 = some 2 → sx_Ev S 67 34 [l0, l1, l2, l3, l4] [.ref s0] h = sx_back S 67 34 [l0, l1, l2, l3, l4] [] (sx_Cl S 54 [.ref s0] h)) ∧
  (∀ (ls : sx_L) (st : List Value) (v : Value) (h : sx_H), sx_back S 67 34 ls st (some (.inl (some v), h)) = sx_Ev S 67 37 ls (v :: st) h) ∧
  (∀ (ls : sx_L) (st : List Value) (e : Nat) (h : sx_H), sx_back S 67 34 ls st (some (.inr e, h)) = some (.inr e, h)) ∧
  (∀ (l0 l1 l2 l3 l4 : Option Value) (s0 : Int32) (h : sx_H), sx_Ev S 67 37 [l0, l1, l2, l3, l4] [.int s0] h = if s0 = 0 then sx_Ev S 67 50 [l0, l1, l2, l3, l4] [] h else sx_Ev S 67 40 [l0, l1, l2, l3, l4] [] h) ∧
  (∀ (l0 l1 l2 l3 l4 : Option Value) (h : sx_H), sx_Ev S 67 40 [l0, l1, l2, l3, l4] [] h = some (.inr 1, sx_push h none 6)) ∧
  (∀ (l1 l2 l3 l4 : Option Value) (x : Nat) (h : sx_H), sx_Ev S 67 50 [some (.ref x), l1, l2, l3, l4] [] h = sx_Ev S 67 51 [some (.ref x), l1, l2, l3, l4] [.ref x] h) ∧
  (∀ (l0 l1 l2 l3 l4 : Option Value) (s0 : Nat) (h : sx_H), sx_Ev S 67 51 [l0, l1, l2, l3, l4] [.ref s0] h = (sx_fld h s0 6 0).bind fun v => sx_Ev S 67 54 [l0, l1, l2, l3, l4] [v] h) ∧
  (∀ (l0 l2 l3 l4 : Option Value) (s0 : Nat) (x : Int32) (h : sx_H), sx_Ev S 67 54 [l0, some (.int x), l2, l3, l4] [.ref s0] h = sx_Ev S 67 55 [l0, some (.int x), l2, l3, l4] [.int x, .ref s0] h) ∧
  (∀ (l0 l1 l3 l4 : Option Value) (s0 : Int32) (s1 : Nat) (x : Int32) (h : sx_H), sx_Ev S 67 55 [l0, l1, some (.int x), l3, l4] [.int s0, .ref s1] h = sx_Ev S 67 56 [l0, l1, some (.int x), l3, l4] [.int x, .int s0, .ref s1] h) ∧
  (∀ (l0 l1 l2 l4 : Option Value) (s0 : Int32) (s1 : Int32) (s2 : Nat) (x : Int32) (h : sx_H), sx_Ev S 67 56 [l0, l1, l2, some (.int x), l4] [.int s0, .int s1, .ref s2] h = sx_Ev S 67 57 [l0, l1, l2, some (.int x), l4] [.int x, .int s0, .int s1, .ref s2] h) ∧
  (∀ (l0 l1 l2 l3 : Option Value) (s0 : Int32) (s1 : Int32) (s2 : Int32) (s3 : Nat) (x : Int32) (h : sx_H), sx_Ev S 67 57 [l0, l1, l2, l3, some (.int x)] [.int s0, .int s1, .int s2, .ref s3] h = sx_Ev S 67 59 [l0, l1, l2, l3, some (.int x)] [.int x, .int s0, .int s1, .int s2, .ref s3] h) ∧
  (∀ (l0 l1 l2 l3 l4 : Option Value) (s0 : Int32) (s1 : Int32) (s2 : Int32) (s3 : Int32) (s4 : Nat) (h : sx_H), sx_klass h s4 = some 2 → sx_Ev S 67 59 [l0, l1, l2, l3, l4] [.int s0, .int s1, .int s2, .int s3, .ref s4] h = sx_back S 67 59 [l0, l1, l2, l3, l4] [] (sx_Cl S 55 [.ref s4, .int s3, .int s2, .int s1, .int s0] h)) ∧
  (∀ (ls : sx_L) (st : List Value) (v : Value) (h : sx_H), sx_back S 67 59 ls st (some (.inl (some v), h)) = sx_Ev S 67 62 ls (v :: st) h) ∧
  (∀ (ls : sx_L) (st : List Value) (e : Nat) (h : sx_H), sx_back S 67 59 ls st (some (.inr e, h)) = some (.inr e, h)) ∧
  (∀ (l0 l1 l2 l3 l4 : Option Value) (s0 : Int32) (h : sx_H), sx_Ev S 67 62 [l0, l1, l2, l3, l4] [.int s0] h = some (.inl (some (.int s0)), h)) := ⟨fun _ _ _ _ _ _ => sx_e_nx rfl rfl,
  fun _ _ _ _ _ _ _ => sx_e_nx rfl rfl,
  fun _ _ _ _ _ _ _ _ => sx_e_bi rfl (by decide +kernel) rfl,
  fun _ _ _ _ _ _ _ _ _ => sx_e_ca rfl rfl,
  fun _ _ _ => rfl,
  fun _ _ _ _ => rfl,
  fun _ _ _ _ _ _ => sx_e_nx rfl rfl,
  fun _ _ _ _ _ _ _ => sx_e_bi rfl (by decide +kernel) rfl,
  fun _ _ _ _ _ _ _ _ => sx_e_bi rfl (by decide +kernel) rfl,
  fun _ _ _ _ _ _ _ _ _ => sx_e_ca rfl rfl,
  fun _ _ _ => rfl,
  fun _ _ _ _ => rfl,
  fun _ _ _ _ _ _ => sx_e_nx rfl rfl,
  fun _ _ _ _ _ _ _ => sx_e_nx rfl rfl,
  fun _ _ _ _ _ _ _ _ => sx_e_bi rfl (by decide +kernel) rfl,
  fun _ _ _ _ _ _ _ _ _ => sx_e_ca rfl rfl,
  fun _ _ _ => rfl,
  fun _ _ _ _ => rfl,
  fun _ _ _ _ _ _ => sx_e_nx rfl rfl,
  fun _ _ _ _ _ _ _ => sx_e_nx rfl rfl,
  fun _ _ _ _ _ _ _ _ => sx_e_bi rfl (by decide +kernel) rfl,
  fun _ _ _ _ _ _ _ _ _ => sx_e_ca rfl rfl,
  fun _ _ _ => rfl,
  fun _ _ _ _ => rfl,
  fun _ _ _ _ _ _ => sx_e_nx rfl rfl,
  fun _ _ _ _ _ _ _ => sx_e_getf rfl rfl (by decide) rfl,
  fun _ _ _ _ _ _ _ hv => sx_e_virt rfl rfl ⟨Nat.le_of_ble_eq_true rfl, Nat.le_of_ble_eq_true rfl, rfl⟩ rfl rfl rfl hv,
  fun _ _ _ _ => rfl,
  fun _ _ _ _ => rfl,
  fun _ _ _ _ _ _ _ => sx_e_eq rfl (by decide) rfl,
  fun _ _ _ _ _ _ => sx_e_dn rfl rfl,
  fun _ _ _ _ _ _ => sx_e_nx rfl rfl,
  fun _ _ _ _ _ _ _ => sx_e_getf rfl rfl (by decide) rfl,
  fun _ _ _ _ _ _ _ => sx_e_nx rfl rfl,
  fun _ _ _ _ _ _ _ _ => sx_e_nx rfl rfl,
  fun _ _ _ _ _ _ _ _ _ => sx_e_nx rfl rfl,
  fun _ _ _ _ _ _ _ _ _ _ => sx_e_nx rfl rfl,
  fun _ _ _ _ _ _ _ _ _ _ _ hv => sx_e_virt rfl rfl ⟨Nat.le_of_ble_eq_true rfl, Nat.le_of_ble_eq_true rfl, rfl⟩ rfl rfl rfl hv,
  fun _ _ _ _ => rfl,
  fun _ _ _ _ => rfl,
  fun _ _ _ _ _ _ _ => sx_e_ret rfl rfl rfl⟩
/-- 68: X10_thread (I)I -/
theorem c68_q (S : List Int32) : ∀ (a0 : Nat) (a1 : Int32) (h : sx_H), sx_Cl S 68 [.ref a0, .int a1] h = sx_Ev S 68 0 [some (.ref a0), some (.int a1)] [] h := fun _ _ _ => rfl
theorem q68 (S : List Int32) : (∀ (l0 : Option Value) (x : Int32) (h : sx_H), sx_Ev S 68 0 [l0, some (.int x)] [] h = sx_Ev S 68 1 [l0, some (.int x)] [.int x] h) ∧
  (∀ (l0 l1 : Option Value) (s0 : Int32) (h : sx_H), sx_Ev S 68 1 [l0, l1] [.int s0] h = sx_Ev S 68 2 [l0, l1] [.int (sz (0)), .int s0] h) ∧
  (∀ (l0 l1 : Option Value) (s0 : Int32) (s1 : Int32) (h : sx_H), sx_Ev S 68 2 [l0, l1] [.int s0, .int s1] h = sx_Ev S 68 5 [l0, l1] [.int (sz (9999)), .int s0, .int s1] h) ∧
  (∀ (l0 l1 : Option Value) (s0 : Int32) (s1 : Int32) (s2 : Int32) (h : sx_H), sx_Ev S 68 5 [l0, l1] [.int s0, .int s1, .int s2] h = sx_back S 68 5 [l0, l1] [] (sx_Cl S 66 [.int s2, .int s1, .int s0] h)) ∧
  (∀ (ls : sx_L) (st : List Value) (h : sx_H), sx_back S 68 5 ls st (some (.inl none, h)) = sx_Ev S 68 8 ls st h) ∧
  (∀ (ls : sx_L) (st : List Value) (e : Nat) (h : sx_H), sx_back S 68 5 ls st (some (.inr e, h)) = some (.inr e, h)) ∧
  (∀ (l1 : Option Value) (x : Nat) (h : sx_H), sx_Ev S 68 8 [some (.ref x), l1] [] h = sx_Ev S 68 9 [some (.ref x), l1] [.ref x] h) ∧
  (∀ (l0 l1 : Option Value) (s0 : Nat) (h : sx_H), sx_Ev S 68 9 [l0, l1] [.ref s0] h = (sx_fld h s0 6 8).bind fun v => sx_Ev S 68 12 [l0, l1] [v] h) ∧
  (∀ (l0 : Option Value) (s0 : Int32) (x : Int32) (h : sx_H), sx_Ev S 68 12 [l0, some (.int x)] [.int s0] h = sx_Ev S 68 13 [l0, some (.int x)] [.int x, .int s0] h) ∧
  (∀ (l0 l1 : Option Value) (s0 : Int32) (s1 : Int32) (h : sx_H), sx_Ev S 68 13 [l0, l1] [.int s0, .int s1] h = sx_Ev S 68 14 [l0, l1] [.int (s1 + s0)] h) ∧
  (∀ (l0 l1 : Option Value) (s0 : Int32) (h : sx_H), sx_Ev S 68 14 [l0, l1] [.int s0] h = sx_Ev S 68 16 [l0, l1] [.int (sz (999999)), .int s0] h) ∧
  (∀ (l0 l1 : Option Value) (s0 : Int32) (s1 : Int32) (h : sx_H), sx_Ev S 68 16 [l0, l1] [.int s0, .int s1] h = if s0 < s1 then sx_Ev S 68 19 [l0, l1] [] h else sx_Ev S 68 29 [l0, l1] [] h) ∧
  (∀ (l0 l1 : Option Value) (h : sx_H), sx_Ev S 68 19 [l0, l1] [] h = some (.inr 1, sx_push h none 6)) ∧
  (∀ (l1 : Option Value) (x : Nat) (h : sx_H), sx_Ev S 68 29 [some (.ref x), l1] [] h = sx_Ev S 68 30 [some (.ref x), l1] [.ref x] h) ∧
  (∀ (l0 l1 : Option Value) (s0 : Nat) (h : sx_H), sx_Ev S 68 30 [l0, l1] [.ref s0] h = sx_Ev S 68 31 [l0, l1] [.ref s0, .ref s0] h) ∧
  (∀ (l0 l1 : Option Value) (s0 : Nat) (s1 : Nat) (h : sx_H), sx_Ev S 68 31 [l0, l1] [.ref s0, .ref s1] h = (sx_fld h s0 6 8).bind fun v => sx_Ev S 68 34 [l0, l1] [v, .ref s1] h) ∧
  (∀ (l0 : Option Value) (s0 : Int32) (s1 : Nat) (x : Int32) (h : sx_H), sx_Ev S 68 34 [l0, some (.int x)] [.int s0, .ref s1] h = sx_Ev S 68 35 [l0, some (.int x)] [.int x, .int s0, .ref s1] h) ∧
  (∀ (l0 l1 : Option Value) (s0 : Int32) (s1 : Int32) (s2 : Nat) (h : sx_H), sx_Ev S 68 35 [l0, l1] [.int s0, .int s1, .ref s2] h = sx_Ev S 68 36 [l0, l1] [.int (s1 + s0), .ref s2] h) ∧
  (∀ (l0 l1 : Option Value) (s0 : Int32) (s1 : Nat) (h : sx_H), sx_Ev S 68 36 [l0, l1] [.int s0, .ref s1] h = (sx_fst h s1 6 8 (.int s0)).bind fun h => sx_Ev S 68 39 [l0, l1] [] h) ∧
  (∀ (l1 : Option Value) (x : Nat) (h : sx_H), sx_Ev S 68 39 [some (.ref x), l1] [] h = sx_Ev S 68 40 [some (.ref x), l1] [.ref x] h) ∧
  (∀ (l0 l1 : Option Value) (s0 : Nat) (h : sx_H), sx_Ev S 68 40 [l0, l1] [.ref s0] h = (sx_fld h s0 6 8).bind fun v => sx_Ev S 68 43 [l0, l1] [v] h) ∧
  (∀ (l0 l1 : Option Value) (s0 : Int32) (h : sx_H), sx_Ev S 68 43 [l0, l1] [.int s0] h = some (.inl (some (.int s0)), h)) := ⟨fun _ _ _ => sx_e_nx rfl rfl,
  fun _ _ _ _ => sx_e_nx rfl rfl,
  fun _ _ _ _ _ => sx_e_si rfl (by decide +kernel) rfl,
  fun _ _ _ _ _ _ => sx_e_ca rfl rfl,
  fun _ _ _ => rfl,
  fun _ _ _ _ => rfl,
  fun _ _ _ => sx_e_nx rfl rfl,
  fun _ _ _ _ => sx_e_getf rfl rfl (by decide) rfl,
  fun _ _ _ _ => sx_e_nx rfl rfl,
  fun _ _ _ _ _ => sx_e_nx rfl rfl,
  fun _ _ _ _ => sx_e_ldc rfl rfl (by decide +kernel) rfl,
  fun _ _ _ _ _ => sx_e_ile rfl (by decide) rfl,
  fun _ _ _ => sx_e_dn rfl rfl,
  fun _ _ _ => sx_e_nx rfl rfl,
  fun _ _ _ _ => sx_e_nx rfl rfl,
  fun _ _ _ _ _ => sx_e_getf rfl rfl (by decide) rfl,
  fun _ _ _ _ _ => sx_e_nx rfl rfl,
  fun _ _ _ _ _ _ => sx_e_nx rfl rfl,
  fun _ _ _ _ _ => sx_e_putf rfl rfl (by decide +kernel) ⟨rfl, rfl⟩ rfl,
  fun _ _ _ => sx_e_nx rfl rfl,
  fun _ _ _ _ => sx_e_getf rfl rfl (by decide) rfl,
  fun _ _ _ _ => sx_e_ret rfl rfl rfl⟩
/-- 69: X10_addCloth (CII)I -/
theorem c69_q (S : List Int32) : ∀ (a0 : Nat) (a1 : Int32) (a2 : Int32) (a3 : Int32) (h : sx_H), sx_Cl S 69 [.ref a0, .int a1, .int a2, .int a3] h = sx_Ev S 69 0 [some (.ref a0), some (.int a1), some (.int a2), some (.int a3)] [] h := fun _ _ _ _ _ => rfl
theorem q69 (S : List Int32) : (∀ (l0 l2 l3 : Option Value) (x : Int32) (h : sx_H), sx_Ev S 69 0 [l0, some (.int x), l2, l3] [] h = sx_Ev S 69 1 [l0, some (.int x), l2, l3] [.int x] h) ∧
  (∀ (l0 l1 l2 l3 : Option Value) (s0 : Int32) (h : sx_H), sx_Ev S 69 1 [l0, l1, l2, l3] [.int s0] h = sx_back S 69 1 [l0, l1, l2, l3] [] (sx_Cl S 61 [.int s0] h)) ∧
  (∀ (ls : sx_L) (st : List Value) (v : Value) (h : sx_H), sx_back S 69 1 ls st (some (.inl (some v), h)) = sx_Ev S 69 4 ls (v :: st) h) ∧
  (∀ (ls : sx_L) (st : List Value) (e : Nat) (h : sx_H), sx_back S 69 1 ls st (some (.inr e, h)) = some (.inr e, h)) ∧
  (∀ (l0 l1 l2 l3 : Option Value) (s0 : Int32) (h : sx_H), sx_Ev S 69 4 [l0, l1, l2, l3] [.int s0] h = if s0 = 0 then sx_Ev S 69 7 [l0, l1, l2, l3] [] h else sx_Ev S 69 17 [l0, l1, l2, l3] [] h) ∧
  (∀ (l0 l1 l2 l3 : Option Value) (h : sx_H), sx_Ev S 69 7 [l0, l1, l2, l3] [] h = some (.inr 0, sx_push h none 6)) ∧
  (∀ (l0 l1 l3 : Option Value) (x : Int32) (h : sx_H), sx_Ev S 69 17 [l0, l1, some (.int x), l3] [] h = sx_Ev S 69 18 [l0, l1, some (.int x), l3] [.int x] h) ∧
  (∀ (l0 l1 l2 l3 : Option Value) (s0 : Int32) (h : sx_H), sx_Ev S 69 18 [l0, l1, l2, l3] [.int s0] h = sx_Ev S 69 19 [l0, l1, l2, l3] [.int (sz (2)), .int s0] h) ∧
  (∀ (l0 l1 l2 l3 : Option Value) (s0 : Int32) (s1 : Int32) (h : sx_H), sx_Ev S 69 19 [l0, l1, l2, l3] [.int s0, .int s1] h = sx_Ev S 69 21 [l0, l1, l2, l3] [.int (sz (12)), .int s0, .int s1] h) ∧
  (∀ (l0 l1 l2 l3 : Option Value) (s0 : Int32) (s1 : Int32) (s2 : Int32) (h : sx_H), sx_Ev S 69 21 [l0, l1, l2, l3] [.int s0, .int s1, .int s2] h = sx_back S 69 21 [l0, l1, l2, l3] [] (sx_Cl S 66 [.int s2, .int s1, .int s0] h)) ∧
  (∀ (ls : sx_L) (st : List Value) (h : sx_H), sx_back S 69 21 ls st (some (.inl none, h)) = sx_Ev S 69 24 ls st h) ∧
  (∀ (ls : sx_L) (st : List Value) (e : Nat) (h : sx_H), sx_back S 69 21 ls st (some (.inr e, h)) = some (.inr e, h)) ∧
  (∀ (l0 l1 l2 : Option Value) (x : Int32) (h : sx_H), sx_Ev S 69 24 [l0, l1, l2, some (.int x)] [] h = sx_Ev S 69 25 [l0, l1, l2, some (.int x)] [.int x] h) ∧
  (∀ (l0 l1 l2 l3 : Option Value) (s0 : Int32) (h : sx_H), sx_Ev S 69 25 [l0, l1, l2, l3] [.int s0] h = sx_Ev S 69 26 [l0, l1, l2, l3] [.int (sz (1)), .int s0] h) ∧
  (∀ (l0 l1 l2 l3 : Option Value) (s0 : Int32) (s1 : Int32) (h : sx_H), sx_Ev S 69 26 [l0, l1, l2, l3] [.int s0, .int s1] h = sx_Ev S 69 28 [l0, l1, l2, l3] [.int (sz (12)), .int s0, .int s1] h) ∧
  (∀ (l0 l1 l2 l3 : Option Value) (s0 : Int32) (s1 : Int32) (s2 : Int32) (h : sx_H), sx_Ev S 69 28 [l0, l1, l2, l3] [.int s0, .int s1, .int s2] h = sx_back S 69 28 [l0, l1, l2, l3] [] (sx_Cl S 66 [.int s2, .int s1, .int s0] h)) ∧
  (∀ (ls : sx_L) (st : List Value) (h : sx_H), sx_back S 69 28 ls st (some (.inl none, h)) = sx_Ev S 69 31 ls st h) ∧
  (∀ (ls : sx_L) (st : List Value) (e : Nat) (h : sx_H), sx_back S 69 28 ls st (some (.inr e, h)) = some (.inr e, h)) ∧
  (∀ (l1 l2 l3 : Option Value) (x : Nat) (h : sx_H), sx_Ev S 69 31 [some (.ref x), l1, l2, l3] [] h = sx_Ev S 69 32 [some (.ref x), l1, l2, l3] [.ref x] h) ∧
  (∀ (l0 l1 l2 l3 : Option Value) (s0 : Nat) (h : sx_H), sx_Ev S 69 32 [l0, l1, l2, l3] [.ref s0] h = (sx_fld h s0 6 6).bind fun v => sx_Ev S 69 35 [l0, l1, l2, l3] [v] h) ∧
  (∀ (l0 l1 l2 l3 : Option Value) (s0 : Int32) (h : sx_H), sx_Ev S 69 35 [l0, l1, l2, l3] [.int s0] h = sx_Ev S 69 37 [l0, l1, l2, l3] [.int (sz (6)), .int s0] h) ∧
  (∀ (l0 l1 l2 l3 : Option Value) (s0 : Int32) (s1 : Int32) (h : sx_H), sx_Ev S 69 37 [l0, l1, l2, l3] [.int s0, .int s1] h = if s1 < s0 then sx_Ev S 69 50 [l0, l1, l2, l3] [] h else sx_Ev S 69 40 [l0, l1, l2, l3] [] h) ∧
  (∀ (l0 l1 l2 l3 : Option Value) (h : sx_H), sx_Ev S 69 40 [l0, l1, l2, l3] [] h = some (.inr 1, sx_push h none 6)) ∧
  (∀ (l1 l2 l3 : Option Value) (x : Nat) (h : sx_H), sx_Ev S 69 50 [some (.ref x), l1, l2, l3] [] h = sx_Ev S 69 51 [some (.ref x), l1, l2, l3] [.ref x] h) ∧
  (∀ (l0 l1 l2 l3 : Option Value) (s0 : Nat) (h : sx_H), sx_Ev S 69 51 [l0, l1, l2, l3] [.ref s0] h = (sx_fld h s0 6 1).bind fun v => sx_Ev S 69 54 [l0, l1, l2, l3] [v] h) ∧
  (∀ (l1 l2 l3 : Option Value) (s0 : Nat) (x : Nat) (h : sx_H), sx_Ev S 69 54 [some (.ref x), l1, l2, l3] [.ref s0] h = sx_Ev S 69 55 [some (.ref x), l1, l2, l3] [.ref x, .ref s0] h) ∧
  (∀ (l0 l1 l2 l3 : Option Value) (s0 : Nat) (s1 : Nat) (h : sx_H), sx_Ev S 69 55 [l0, l1, l2, l3] [.ref s0, .ref s1] h = (sx_fld h s0 6 6).bind fun v => sx_Ev S 69 58 [l0, l1, l2, l3] [v, .ref s1] h) ∧
  (∀ (l0 l1 l2 l3 : Option Value) (s0 : Int32) (s1 : Nat) (h : sx_H), sx_Ev S 69 58 [l0, l1, l2, l3] [.int s0, .ref s1] h = sx_Ev S 69 61 [l0, l1, l2, l3] [.ref (sx_new h), .int s0, .ref s1] (sx_push h (some (.inr (.inr (0, sx_df 0)))) (sx_N 0))) ∧
  (∀ (l0 l1 l2 l3 : Option Value) (s0 : Nat) (s1 : Int32) (s2 : Nat) (h : sx_H), sx_Ev S 69 61 [l0, l1, l2, l3] [.ref s0, .int s1, .ref s2] h = sx_Ev S 69 62 [l0, l1, l2, l3] [.ref s0, .ref s0, .int s1, .ref s2] h) ∧
  (∀ (l1 l2 l3 : Option Value) (s0 : Nat) (s1 : Nat) (s2 : Int32) (s3 : Nat) (x : Nat) (h : sx_H), sx_Ev S 69 62 [some (.ref x), l1, l2, l3] [.ref s0, .ref s1, .int s2, .ref s3] h = sx_Ev S 69 63 [some (.ref x), l1, l2, l3] [.ref x, .ref s0, .ref s1, .int s2, .ref s3] h) ∧
  (∀ (l0 l1 l2 l3 : Option Value) (s0 : Nat) (s1 : Nat) (s2 : Nat) (s3 : Int32) (s4 : Nat) (h : sx_H), sx_Ev S 69 63 [l0, l1, l2, l3] [.ref s0, .ref s1, .ref s2, .int s3, .ref s4] h = (sx_fld h s0 6 0).bind fun v => sx_Ev S 69 66 [l0, l1, l2, l3] [v, .ref s1, .ref s2, .int s3, .ref s4] h) ∧
  (∀ (l0 l2 l3 : Option Value) (s0 : Nat) (s1 : Nat) (s2 : Nat) (s3 : Int32) (s4 : Nat) (x : Int32) (h : sx_H), sx_Ev S 69 66 [l0, some (.int x), l2, l3] [.ref s0, .ref s1, .ref s2, .int s3, .ref s4] h = sx_Ev S 69 67 [l0, some (.int x), l2, l3] [.int x, .ref s0, .ref s1, .ref s2, .int s3, .ref s4] h) ∧
  (∀ (l0 l1 l3 : Option Value) (s0 : Int32) (s1 : Nat) (s2 : Nat) (s3 : Nat) (s4 : Int32) (s5 : Nat) (x : Int32) (h : sx_H), sx_Ev S 69 67 [l0, l1, some (.int x), l3] [.int s0, .ref s1, .ref s2, .ref s3, .int s4, .ref s5] h = sx_Ev S 69 68 [l0, l1, some (.int x), l3] [.int x, .int s0, .ref s1, .ref s2, .ref s3, .int s4, .ref s5] h) ∧
  (∀ (l0 l1 l2 : Option Value) (s0 : Int32) (s1 : Int32) (s2 : Nat) (s3 : Nat) (s4 : Nat) (s5 : Int32) (s6 : Nat) (x : Int32) (h : sx_H), sx_Ev S 69 68 [l0, l1, l2, some (.int x)] [.int s0, .int s1, .ref s2, .ref s3, .ref s4, .int s5, .ref s6] h = sx_Ev S 69 69 [l0, l1, l2, some (.int x)] [.int x, .int s0, .int s1, .ref s2, .ref s3, .ref s4, .int s5, .ref s6] h) ∧
  (∀ (l0 l1 l2 l3 : Option Value) (s0 : Int32) (s1 : Int32) (s2 : Int32) (s3 : Nat) (s4 : Nat) (s5 : Nat) (s6 : Int32) (s7 : Nat) (h : sx_H), sx_Ev S 69 69 [l0, l1, l2, l3] [.int s0, .int s1, .int s2, .ref s3, .ref s4, .ref s5, .int s6, .ref s7] h = sx_back S 69 69 [l0, l1, l2, l3] [.ref s5, .int s6, .ref s7] (sx_Cl S 23 [.ref s4, .ref s3, .int s2, .int s1, .int s0] h)) ∧
  (∀ (ls : sx_L) (st : List Value) (h : sx_H), sx_back S 69 69 ls st (some (.inl none, h)) = sx_Ev S 69 72 ls st h) ∧
  (∀ (ls : sx_L) (st : List Value) (e : Nat) (h : sx_H), sx_back S 69 69 ls st (some (.inr e, h)) = some (.inr e, h)) ∧
  (∀ (l0 l1 l2 l3 : Option Value) (s0 : Nat) (s1 : Int32) (s2 : Nat) (h : sx_H), sx_Ev S 69 72 [l0, l1, l2, l3] [.ref s0, .int s1, .ref s2] h = (sx_wrA h s2 s1 s0).bind fun h => sx_Ev S 69 73 [l0, l1, l2, l3] [] h) ∧
  (∀ (l1 l2 l3 : Option Value) (x : Nat) (h : sx_H), sx_Ev S 69 73 [some (.ref x), l1, l2, l3] [] h = sx_Ev S 69 74 [some (.ref x), l1, l2, l3] [.ref x] h) ∧
  (∀ (l0 l1 l2 l3 : Option Value) (s0 : Nat) (h : sx_H), sx_Ev S 69 74 [l0, l1, l2, l3] [.ref s0] h = sx_Ev S 69 75 [l0, l1, l2, l3] [.ref s0, .ref s0] h) ∧
  (∀ (l0 l1 l2 l3 : Option Value) (s0 : Nat) (s1 : Nat) (h : sx_H), sx_Ev S 69 75 [l0, l1, l2, l3] [.ref s0, .ref s1] h = (sx_fld h s0 6 6).bind fun v => sx_Ev S 69 78 [l0, l1, l2, l3] [v, .ref s1] h) ∧
  (∀ (l0 l1 l2 l3 : Option Value) (s0 : Int32) (s1 : Nat) (h : sx_H), sx_Ev S 69 78 [l0, l1, l2, l3] [.int s0, .ref s1] h = sx_Ev S 69 79 [l0, l1, l2, l3] [.int (sz (1)), .int s0, .ref s1] h) ∧
  (∀ (l0 l1 l2 l3 : Option Value) (s0 : Int32) (s1 : Int32) (s2 : Nat) (h : sx_H), sx_Ev S 69 79 [l0, l1, l2, l3] [.int s0, .int s1, .ref s2] h = sx_Ev S 69 80 [l0, l1, l2, l3] [.int (s1 + s0), .ref s2] h) ∧
  (∀ (l0 l1 l2 l3 : Option Value) (s0 : Int32) (s1 : Nat) (h : sx_H), sx_Ev S 69 80 [l0, l1, l2, l3] [.int s0, .ref s1] h = (sx_fst h s1 6 6 (.int s0)).bind fun h => sx_Ev S 69 83 [l0, l1, l2, l3] [] h) ∧
  (∀ (l1 l2 l3 : Option Value) (x : Nat) (h : sx_H), sx_Ev S 69 83 [some (.ref x), l1, l2, l3] [] h = sx_Ev S 69 84 [some (.ref x), l1, l2, l3] [.ref x] h) ∧
  (∀ (l0 l1 l2 l3 : Option Value) (s0 : Nat) (h : sx_H), sx_Ev S 69 84 [l0, l1, l2, l3] [.ref s0] h = (sx_fld h s0 6 6).bind fun v => sx_Ev S 69 87 [l0, l1, l2, l3] [v] h) ∧
  (∀ (l0 l1 l2 l3 : Option Value) (s0 : Int32) (h : sx_H), sx_Ev S 69 87 [l0, l1, l2, l3] [.int s0] h = sx_Ev S 69 88 [l0, l1, l2, l3] [.int (sz (1)), .int s0] h) ∧
  (∀ (l0 l1 l2 l3 : Option Value) (s0 : Int32) (s1 : Int32) (h : sx_H), sx_Ev S 69 88 [l0, l1, l2, l3] [.int s0, .int s1] h = sx_Ev S 69 89 [l0, l1, l2, l3] [.int (s1 - s0)] h) ∧
  (∀ (l0 l1 l2 l3 : Option Value) (s0 : Int32) (h : sx_H), sx_Ev S 69 89 [l0, l1, l2, l3] [.int s0] h = some (.inl (some (.int s0)), h)) := ⟨fun _ _ _ _ _ => sx_e_nx rfl rfl,
  fun _ _ _ _ _ _ => sx_e_ca rfl rfl,
  fun _ _ _ _ => rfl,
  fun _ _ _ _ => rfl,
  fun _ _ _ _ _ _ => sx_e_ne rfl (by decide) rfl,
  fun _ _ _ _ _ => sx_e_dn rfl rfl,
  fun _ _ _ _ _ => sx_e_nx rfl rfl,
  fun _ _ _ _ _ _ => sx_e_nx rfl rfl,
  fun _ _ _ _ _ _ _ => sx_e_bi rfl (by decide +kernel) rfl,
  fun _ _ _ _ _ _ _ _ => sx_e_ca rfl rfl,
  fun _ _ _ => rfl,
  fun _ _ _ _ => rfl,
  fun _ _ _ _ _ => sx_e_nx rfl rfl,
  fun _ _ _ _ _ _ => sx_e_nx rfl rfl,
  fun _ _ _ _ _ _ _ => sx_e_bi rfl (by decide +kernel) rfl,
  fun _ _ _ _ _ _ _ _ => sx_e_ca rfl rfl,
  fun _ _ _ => rfl,
  fun _ _ _ _ => rfl,
  fun _ _ _ _ _ => sx_e_nx rfl rfl,
  fun _ _ _ _ _ _ => sx_e_getf rfl rfl (by decide) rfl,
  fun _ _ _ _ _ _ => sx_e_bi rfl (by decide +kernel) rfl,
  fun _ _ _ _ _ _ _ => sx_e_ilt rfl (by decide) rfl,
  fun _ _ _ _ _ => sx_e_dn rfl rfl,
  fun _ _ _ _ _ => sx_e_nx rfl rfl,
  fun _ _ _ _ _ _ => sx_e_getf rfl rfl (by decide) rfl,
  fun _ _ _ _ _ _ => sx_e_nx rfl rfl,
  fun _ _ _ _ _ _ _ => sx_e_getf rfl rfl (by decide) rfl,
  fun _ _ _ _ _ _ _ => sx_e_nx rfl rfl,
  fun _ _ _ _ _ _ _ _ => sx_e_nx rfl rfl,
  fun _ _ _ _ _ _ _ _ _ => sx_e_nx rfl rfl,
  fun _ _ _ _ _ _ _ _ _ _ => sx_e_getf rfl rfl (by decide) rfl,
  fun _ _ _ _ _ _ _ _ _ _ => sx_e_nx rfl rfl,
  fun _ _ _ _ _ _ _ _ _ _ _ => sx_e_nx rfl rfl,
  fun _ _ _ _ _ _ _ _ _ _ _ _ => sx_e_nx rfl rfl,
  fun _ _ _ _ _ _ _ _ _ _ _ _ _ => sx_e_ca rfl rfl,
  fun _ _ _ => rfl,
  fun _ _ _ _ => rfl,
  fun _ _ _ _ _ _ _ _ => sx_e_aast rfl rfl,
  fun _ _ _ _ _ => sx_e_nx rfl rfl,
  fun _ _ _ _ _ _ => sx_e_nx rfl rfl,
  fun _ _ _ _ _ _ _ => sx_e_getf rfl rfl (by decide) rfl,
  fun _ _ _ _ _ _ _ => sx_e_nx rfl rfl,
  fun _ _ _ _ _ _ _ _ => sx_e_nx rfl rfl,
  fun _ _ _ _ _ _ _ => sx_e_putf rfl rfl (by decide +kernel) ⟨rfl, rfl⟩ rfl,
  fun _ _ _ _ _ => sx_e_nx rfl rfl,
  fun _ _ _ _ _ _ => sx_e_getf rfl rfl (by decide) rfl,
  fun _ _ _ _ _ _ => sx_e_nx rfl rfl,
  fun _ _ _ _ _ _ _ => sx_e_nx rfl rfl,
  fun _ _ _ _ _ _ => sx_e_ret rfl rfl rfl⟩
/-- 70: X10_clothOf (I)LBeadslant$Cloth; -/
theorem c70_q (S : List Int32) : ∀ (a0 : Nat) (a1 : Int32) (h : sx_H), sx_Cl S 70 [.ref a0, .int a1] h = sx_Ev S 70 0 [some (.ref a0), some (.int a1), none] [] h := fun _ _ _ => rfl
theorem q70 (S : List Int32) : (∀ (l0 l2 : Option Value) (x : Int32) (h : sx_H), sx_Ev S 70 0 [l0, some (.int x), l2] [] h = sx_Ev S 70 1 [l0, some (.int x), l2] [.int x] h) ∧
  (∀ (l0 l1 l2 : Option Value) (s0 : Int32) (h : sx_H), sx_Ev S 70 1 [l0, l1, l2] [.int s0] h = if s0 < 0 then sx_Ev S 70 27 [l0, l1, l2] [] h else sx_Ev S 70 4 [l0, l1, l2] [] h) ∧
  (∀ (l0 l2 : Option Value) (x : Int32) (h : sx_H), sx_Ev S 70 4 [l0, some (.int x), l2] [] h = sx_Ev S 70 5 [l0, some (.int x), l2] [.int x] h) ∧
  (∀ (l1 l2 : Option Value) (s0 : Int32) (x : Nat) (h : sx_H), sx_Ev S 70 5 [some (.ref x), l1, l2] [.int s0] h = sx_Ev S 70 6 [some (.ref x), l1, l2] [.ref x, .int s0] h) ∧
  (∀ (l0 l1 l2 : Option Value) (s0 : Nat) (s1 : Int32) (h : sx_H), sx_Ev S 70 6 [l0, l1, l2] [.ref s0, .int s1] h = (sx_fld h s0 6 6).bind fun v => sx_Ev S 70 9 [l0, l1, l2] [v, .int s1] h) ∧
  (∀ (l0 l1 l2 : Option Value) (s0 : Int32) (s1 : Int32) (h : sx_H), sx_Ev S 70 9 [l0, l1, l2] [.int s0, .int s1] h = if s1 < s0 then sx_Ev S 70 12 [l0, l1, l2] [] h else sx_Ev S 70 27 [l0, l1, l2] [] h) ∧
  (∀ (l0 l2 : Option Value) (x : Int32) (h : sx_H), sx_Ev S 70 12 [l0, some (.int x), l2] [] h = sx_Ev S 70 13 [l0, some (.int x), l2] [.int x] h) ∧
  (∀ (l0 l1 l2 : Option Value) (s0 : Int32) (h : sx_H), sx_Ev S 70 13 [l0, l1, l2] [.int s0] h = sx_Ev S 70 15 [l0, l1, l2] [.int (sz (6)), .int s0] h) ∧
  (∀ (l0 l1 l2 : Option Value) (s0 : Int32) (s1 : Int32) (h : sx_H), sx_Ev S 70 15 [l0, l1, l2] [.int s0, .int s1] h = if s1 < s0 then sx_Ev S 70 18 [l0, l1, l2] [] h else sx_Ev S 70 27 [l0, l1, l2] [] h) ∧
  (∀ (l1 l2 : Option Value) (x : Nat) (h : sx_H), sx_Ev S 70 18 [some (.ref x), l1, l2] [] h = sx_Ev S 70 19 [some (.ref x), l1, l2] [.ref x] h) ∧
  (∀ (l0 l1 l2 : Option Value) (s0 : Nat) (h : sx_H), sx_Ev S 70 19 [l0, l1, l2] [.ref s0] h = (sx_fld h s0 6 1).bind fun v => sx_Ev S 70 22 [l0, l1, l2] [v] h) ∧
  (∀ (l0 l2 : Option Value) (s0 : Nat) (x : Int32) (h : sx_H), sx_Ev S 70 22 [l0, some (.int x), l2] [.ref s0] h = sx_Ev S 70 23 [l0, some (.int x), l2] [.int x, .ref s0] h) ∧
  (∀ (l0 l1 l2 : Option Value) (s0 : Int32) (s1 : Nat) (h : sx_H), sx_Ev S 70 23 [l0, l1, l2] [.int s0, .ref s1] h = (sx_rdA h s1 s0).bind fun v => sx_Ev S 70 24 [l0, l1, l2] [sx_rf v] h) ∧
  (∀ (l0 l1 l2 : Option Value) (s0 : Nat) (h : sx_H), sx_Ev S 70 24 [l0, l1, l2] [.ref s0] h = sx_Ev S 70 28 [l0, l1, l2] [.ref s0] h) ∧
  (∀ (l0 l1 l2 : Option Value) (h : sx_H), sx_Ev S 70 27 [l0, l1, l2] [] h = sx_Ev S 70 28 [l0, l1, l2] [.null] h) ∧
  (∀ (l0 l1 l2 : Option Value) (s0 : Nat) (h : sx_H), sx_Ev S 70 28 [l0, l1, l2] [.ref s0] h = sx_Ev S 70 29 [l0, l1, some (.ref s0)] [] h) ∧
  (∀ (l0 l1 l2 : Option Value) (h : sx_H), sx_Ev S 70 28 [l0, l1, l2] [.null] h = sx_Ev S 70 29 [l0, l1, some .null] [] h) ∧
  (∀ (l0 l1 : Option Value) (x : Nat) (h : sx_H), sx_Ev S 70 29 [l0, l1, some (.ref x)] [] h = sx_Ev S 70 30 [l0, l1, some (.ref x)] [.ref x] h) ∧
  (∀ (l0 l1 l2 : Option Value) (s0 : Nat) (h : sx_H), sx_Ev S 70 30 [l0, l1, l2] [.ref s0] h = sx_Ev S 70 44 [l0, l1, l2] [] h) ∧
  (∀ (l0 l1 l2 : Option Value) (h : sx_H), sx_Ev S 70 30 [l0, l1, l2] [.null] h = sx_Ev S 70 33 [l0, l1, l2] [] h) ∧
  (∀ (l0 l1 l2 : Option Value) (h : sx_H), sx_Ev S 70 33 [l0, l1, l2] [] h = some (.inr 2, sx_push h none 6)) ∧
  (∀ (l0 l1 : Option Value) (x : Nat) (h : sx_H), sx_Ev S 70 44 [l0, l1, some (.ref x)] [] h = sx_Ev S 70 45 [l0, l1, some (.ref x)] [.ref x] h) ∧
  (∀ (l0 l1 l2 : Option Value) (s0 : Nat) (h : sx_H), sx_Ev S 70 45 [l0, l1, l2] [.ref s0] h = some (.inl (some (.ref s0)), h)) := ⟨fun _ _ _ _ => sx_e_nx rfl rfl,
  fun _ _ _ _ _ => sx_e_lt rfl (by decide) rfl,
  fun _ _ _ _ => sx_e_nx rfl rfl,
  fun _ _ _ _ _ => sx_e_nx rfl rfl,
  fun _ _ _ _ _ _ => sx_e_getf rfl rfl (by decide) rfl,
  fun _ _ _ _ _ _ => sx_e_ige rfl (by decide) rfl,
  fun _ _ _ _ => sx_e_nx rfl rfl,
  fun _ _ _ _ _ => sx_e_bi rfl (by decide +kernel) rfl,
  fun _ _ _ _ _ _ => sx_e_ige rfl (by decide) rfl,
  fun _ _ _ _ => sx_e_nx rfl rfl,
  fun _ _ _ _ _ => sx_e_getf rfl rfl (by decide) rfl,
  fun _ _ _ _ _ => sx_e_nx rfl rfl,
  fun _ _ _ _ _ _ => sx_e_aald rfl rfl,
  fun _ _ _ _ _ => sx_e_goto rfl (by decide),
  fun _ _ _ _ => sx_e_nx rfl rfl,
  fun _ _ _ _ _ => sx_e_nx rfl rfl,
  fun _ _ _ _ => sx_e_nx rfl rfl,
  fun _ _ _ _ => sx_e_nx rfl rfl,
  fun _ _ _ _ _ => sx_e_nnR rfl (by decide),
  fun _ _ _ _ => sx_e_nx rfl rfl,
  fun _ _ _ _ => sx_e_dn rfl rfl,
  fun _ _ _ _ => sx_e_nx rfl rfl,
  fun _ _ _ _ _ => sx_e_dn rfl rfl⟩
/-- 71: X10_requirePlace (LBeadslant$Cloth;II)V -/
theorem c71_q (S : List Int32) : ∀ (a0 : Nat) (a1 : Int32) (a2 : Int32) (h : sx_H), sx_Cl S 71 [.ref a0, .int a1, .int a2] h = sx_Ev S 71 0 [some (.ref a0), some (.int a1), some (.int a2)] [] h := fun _ _ _ _ => rfl
theorem q71 (S : List Int32) : (∀ (l1 l2 : Option Value) (x : Nat) (h : sx_H), sx_Ev S 71 0 [some (.ref x), l1, l2] [] h = sx_Ev S 71 1 [some (.ref x), l1, l2] [.ref x] h) ∧
  (∀ (l0 l2 : Option Value) (s0 : Nat) (x : Int32) (h : sx_H), sx_Ev S 71 1 [l0, some (.int x), l2] [.ref s0] h = sx_Ev S 71 2 [l0, some (.int x), l2] [.int x, .ref s0] h) ∧
  (∀ (l0 l1 : Option Value) (s0 : Int32) (s1 : Nat) (x : Int32) (h : sx_H), sx_Ev S 71 2 [l0, l1, some (.int x)] [.int s0, .ref s1] h = sx_Ev S 71 3 [l0, l1, some (.int x)] [.int x, .int s0, .ref s1] h) ∧
  (∀ (l0 l1 l2 : Option Value) (s0 : Int32) (s1 : Int32) (s2 : Nat) (h : sx_H), sx_klass h s2 = some 0 → sx_Ev S 71 3 [l0, l1, l2] [.int s0, .int s1, .ref s2] h = sx_back S 71 3 [l0, l1, l2] [] (sx_Cl S 25 [.ref s2, .int s1, .int s0] h)) ∧
  (∀ (ls : sx_L) (st : List Value) (v : Value) (h : sx_H), sx_back S 71 3 ls st (some (.inl (some v), h)) = sx_Ev S 71 6 ls (v :: st) h) ∧
  (∀ (ls : sx_L) (st : List Value) (e : Nat) (h : sx_H), sx_back S 71 3 ls st (some (.inr e, h)) = some (.inr e, h)) ∧
  (∀ (l0 l1 l2 : Option Value) (s0 : Int32) (h : sx_H), sx_Ev S 71 6 [l0, l1, l2] [.int s0] h = if s0 = 0 then sx_Ev S 71 9 [l0, l1, l2] [] h else sx_Ev S 71 20 [l0, l1, l2] [] h) ∧
  (∀ (l0 l1 l2 : Option Value) (h : sx_H), sx_Ev S 71 9 [l0, l1, l2] [] h = some (.inr 2, sx_push h none 6)) ∧
  (∀ (l0 l1 l2 : Option Value) (h : sx_H), sx_Ev S 71 20 [l0, l1, l2] [] h = some (.inl none, h)) := ⟨fun _ _ _ _ => sx_e_nx rfl rfl,
  fun _ _ _ _ _ => sx_e_nx rfl rfl,
  fun _ _ _ _ _ _ => sx_e_nx rfl rfl,
  fun _ _ _ _ _ _ _ hv => sx_e_virt rfl rfl ⟨Nat.le_of_ble_eq_true rfl, Nat.le_of_ble_eq_true rfl, rfl⟩ rfl rfl rfl hv,
  fun _ _ _ _ => rfl,
  fun _ _ _ _ => rfl,
  fun _ _ _ _ _ => sx_e_ne rfl (by decide) rfl,
  fun _ _ _ _ => sx_e_dn rfl rfl,
  fun _ _ _ _ => sx_e_dn rfl rfl⟩
/-- 72: X10_requireKind (I)V -/
theorem c72_q (S : List Int32) : ∀ (a0 : Nat) (a1 : Int32) (h : sx_H), sx_Cl S 72 [.ref a0, .int a1] h = sx_Ev S 72 0 [some (.ref a0), some (.int a1)] [] h := fun _ _ _ => rfl
theorem q72 (S : List Int32) : (∀ (l1 : Option Value) (x : Nat) (h : sx_H), sx_Ev S 72 0 [some (.ref x), l1] [] h = sx_Ev S 72 1 [some (.ref x), l1] [.ref x] h) ∧
  (∀ (l0 l1 : Option Value) (s0 : Nat) (h : sx_H), sx_Ev S 72 1 [l0, l1] [.ref s0] h = (sx_fld h s0 6 0).bind fun v => sx_Ev S 72 4 [l0, l1] [v] h) ∧
  (∀ (l0 : Option Value) (s0 : Nat) (x : Int32) (h : sx_H), sx_Ev S 72 4 [l0, some (.int x)] [.ref s0] h = sx_Ev S 72 5 [l0, some (.int x)] [.int x, .ref s0] h) ∧
  (∀ (l0 l1 : Option Value) (s0 : Int32) (s1 : Nat) (h : sx_H), sx_klass h s1 = some 2 → sx_Ev S 72 5 [l0, l1] [.int s0, .ref s1] h = sx_back S 72 5 [l0, l1] [] (sx_Cl S 28 [.ref s1, .int s0] h)) ∧
  (∀ (ls : sx_L) (st : List Value) (v : Value) (h : sx_H), sx_back S 72 5 ls st (some (.inl (some v), h)) = sx_Ev S 72 8 ls (v :: st) h) ∧
  (∀ (ls : sx_L) (st : List Value) (e : Nat) (h : sx_H), sx_back S 72 5 ls st (some (.inr e, h)) = some (.inr e, h)) ∧
  (∀ (l0 l1 : Option Value) (s0 : Int32) (h : sx_H), sx_Ev S 72 8 [l0, l1] [.int s0] h = if s0 = 0 then sx_Ev S 72 11 [l0, l1] [] h else sx_Ev S 72 22 [l0, l1] [] h) ∧
  (∀ (l0 l1 : Option Value) (h : sx_H), sx_Ev S 72 11 [l0, l1] [] h = some (.inr 2, sx_push h none 6)) ∧
  (∀ (l0 l1 : Option Value) (h : sx_H), sx_Ev S 72 22 [l0, l1] [] h = some (.inl none, h)) := ⟨fun _ _ _ => sx_e_nx rfl rfl,
  fun _ _ _ _ => sx_e_getf rfl rfl (by decide) rfl,
  fun _ _ _ _ => sx_e_nx rfl rfl,
  fun _ _ _ _ _ hv => sx_e_virt rfl rfl ⟨Nat.le_of_ble_eq_true rfl, Nat.le_of_ble_eq_true rfl, rfl⟩ rfl rfl rfl hv,
  fun _ _ _ _ => rfl,
  fun _ _ _ _ => rfl,
  fun _ _ _ _ => sx_e_ne rfl (by decide) rfl,
  fun _ _ _ => sx_e_dn rfl rfl,
  fun _ _ _ => sx_e_dn rfl rfl⟩
/-- 73: X10_requireDrawn (LBeadslant$Cloth;)V -/
theorem c73_q (S : List Int32) : ∀ (a0 : Nat) (h : sx_H), sx_Cl S 73 [.ref a0] h = sx_Ev S 73 0 [some (.ref a0)] [] h := fun _ _ => rfl
theorem q73 (S : List Int32) : (∀ (x : Nat) (h : sx_H), sx_Ev S 73 0 [some (.ref x)] [] h = sx_Ev S 73 1 [some (.ref x)] [.ref x] h) ∧
  (∀ (l0 : Option Value) (s0 : Nat) (h : sx_H), sx_Ev S 73 1 [l0] [.ref s0] h = (sx_fld h s0 0 9).bind fun v => sx_Ev S 73 4 [l0] [v] h) ∧
  (∀ (l0 : Option Value) (s0 : Int32) (h : sx_H), sx_Ev S 73 4 [l0] [.int s0] h = sx_Ev S 73 6 [l0] [.int (sz (100)), .int s0] h) ∧
  (∀ (l0 : Option Value) (s0 : Int32) (s1 : Int32) (h : sx_H), sx_Ev S 73 6 [l0] [.int s0, .int s1] h = if s1 = s0 then sx_Ev S 73 20 [l0] [] h else sx_Ev S 73 9 [l0] [] h) ∧
  (∀ (l0 : Option Value) (h : sx_H), sx_Ev S 73 9 [l0] [] h = some (.inr 3, sx_push h none 6)) ∧
  (∀ (l0 : Option Value) (h : sx_H), sx_Ev S 73 20 [l0] [] h = some (.inl none, h)) := ⟨fun _ _ => sx_e_nx rfl rfl,
  fun _ _ _ => sx_e_getf rfl rfl (by decide) rfl,
  fun _ _ _ => sx_e_bi rfl (by decide +kernel) rfl,
  fun _ _ _ _ => sx_e_ieq rfl (by decide) rfl,
  fun _ _ => sx_e_dn rfl rfl,
  fun _ _ => sx_e_dn rfl rfl⟩
/-- 74: X10_draw (IIII)I -/
theorem c74_q (S : List Int32) : ∀ (a0 : Nat) (a1 : Int32) (a2 : Int32) (a3 : Int32) (a4 : Int32) (h : sx_H), sx_Cl S 74 [.ref a0, .int a1, .int a2, .int a3, .int a4] h = sx_Ev S 74 0 [some (.ref a0), some (.int a1), some (.int a2), some (.int a3), some (.int a4), none, none, none] [] h := fun _ _ _ _ _ _ => rfl
theorem q74 (S : List Int32) : (∀ (l1 l2 l3 l4 l5 l6 l7 : Option Value) (x : Nat) (h : sx_H), sx_Ev S 74 0 [some (.ref x), l1, l2, l3, l4, l5, l6, l7] [] h = sx_Ev S 74 1 [some (.ref x), l1, l2, l3, l4, l5, l6, l7] [.ref x] h) ∧
  (∀ (l0 l2 l3 l4 l5 l6 l7 : Option Value) (s0 : Nat) (x : Int32) (h : sx_H), sx_Ev S 74 1 [l0, some (.int x), l2, l3, l4, l5, l6, l7] [.ref s0] h = sx_Ev S 74 2 [l0, some (.int x), l2, l3, l4, l5, l6, l7] [.int x, .ref s0] h) ∧
  (∀ (l0 l1 l2 l3 l4 l5 l6 l7 : Option Value) (s0 : Int32) (s1 : Nat) (h : sx_H), sx_klass h s1 = some 6 → sx_Ev S 74 2 [l0, l1, l2, l3, l4, l5, l6, l7] [.int s0, .ref s1] h = sx_back S 74 2 [l0, l1, l2, l3, l4, l5, l6, l7] [] (sx_Cl S 70 [.ref s1, .int s0] h)) ∧
  (∀ (ls : sx_L) (st : List Value) (v : Value) (h : sx_H), sx_back S 74 2 ls st (some (.inl (some v), h)) = sx_Ev S 74 5 ls (v :: st) h) ∧
  (∀ (ls : sx_L) (st : List Value) (e : Nat) (h : sx_H), sx_back S 74 2 ls st (some (.inr e, h)) = some (.inr e, h)) ∧
  (∀ (l0 l1 l2 l3 l4 l5 l6 l7 : Option Value) (s0 : Nat) (h : sx_H), sx_Ev S 74 5 [l0, l1, l2, l3, l4, l5, l6, l7] [.ref s0] h = sx_Ev S 74 7 [l0, l1, l2, l3, l4, some (.ref s0), l6, l7] [] h) ∧
  (∀ (l0 l1 l2 l3 l4 l6 l7 : Option Value) (x : Nat) (h : sx_H), sx_Ev S 74 7 [l0, l1, l2, l3, l4, some (.ref x), l6, l7] [] h = sx_Ev S 74 9 [l0, l1, l2, l3, l4, some (.ref x), l6, l7] [.ref x] h) ∧
  (∀ (l0 l1 l3 l4 l5 l6 l7 : Option Value) (s0 : Nat) (x : Int32) (h : sx_H), sx_Ev S 74 9 [l0, l1, some (.int x), l3, l4, l5, l6, l7] [.ref s0] h = sx_Ev S 74 10 [l0, l1, some (.int x), l3, l4, l5, l6, l7] [.int x, .ref s0] h) ∧
  (∀ (l0 l1 l2 l4 l5 l6 l7 : Option Value) (s0 : Int32) (s1 : Nat) (x : Int32) (h : sx_H), sx_Ev S 74 10 [l0, l1, l2, some (.int x), l4, l5, l6, l7] [.int s0, .ref s1] h = sx_Ev S 74 11 [l0, l1, l2, some (.int x), l4, l5, l6, l7] [.int x, .int s0, .ref s1] h) ∧
  (∀ (l0 l1 l2 l3 l4 l5 l6 l7 : Option Value) (s0 : Int32) (s1 : Int32) (s2 : Nat) (h : sx_H), sx_Ev S 74 11 [l0, l1, l2, l3, l4, l5, l6, l7] [.int s0, .int s1, .ref s2] h = sx_back S 74 11 [l0, l1, l2, l3, l4, l5, l6, l7] [] (sx_Cl S 71 [.ref s2, .int s1, .int s0] h)) ∧
  (∀ (ls : sx_L) (st : List Value) (h : sx_H), sx_back S 74 11 ls st (some (.inl none, h)) = sx_Ev S 74 14 ls st h) ∧
  (∀ (ls : sx_L) (st : List Value) (e : Nat) (h : sx_H), sx_back S 74 11 ls st (some (.inr e, h)) = some (.inr e, h)) ∧
  (∀ (l0 l1 l2 l3 l5 l6 l7 : Option Value) (x : Int32) (h : sx_H), sx_Ev S 74 14 [l0, l1, l2, l3, some (.int x), l5, l6, l7] [] h = sx_Ev S 74 16 [l0, l1, l2, l3, some (.int x), l5, l6, l7] [.int x] h) ∧
  (∀ (l0 l1 l2 l3 l4 l5 l6 l7 : Option Value) (s0 : Int32) (h : sx_H), sx_Ev S 74 16 [l0, l1, l2, l3, l4, l5, l6, l7] [.int s0] h = sx_Ev S 74 17 [l0, l1, l2, l3, l4, l5, l6, l7] [.int (sz (-1)), .int s0] h) ∧
  (∀ (l0 l1 l2 l3 l4 l5 l6 l7 : Option Value) (s0 : Int32) (s1 : Int32) (h : sx_H), sx_Ev S 74 17 [l0, l1, l2, l3, l4, l5, l6, l7] [.int s0, .int s1] h = if s1 = s0 then sx_Ev S 74 26 [l0, l1, l2, l3, l4, l5, l6, l7] [] h else sx_Ev S 74 20 [l0, l1, l2, l3, l4, l5, l6, l7] [] h) ∧
  (∀ (l1 l2 l3 l4 l5 l6 l7 : Option Value) (x : Nat) (h : sx_H), sx_Ev S 74 20 [some (.ref x), l1, l2, l3, l4, l5, l6, l7] [] h = sx_Ev S 74 21 [some (.ref x), l1, l2, l3, l4, l5, l6, l7] [.ref x] h) ∧
  (∀ (l0 l1 l2 l3 l5 l6 l7 : Option Value) (s0 : Nat) (x : Int32) (h : sx_H), sx_Ev S 74 21 [l0, l1, l2, l3, some (.int x), l5, l6, l7] [.ref s0] h = sx_Ev S 74 23 [l0, l1, l2, l3, some (.int x), l5, l6, l7] [.int x, .ref s0] h) ∧
  (∀ (l0 l1 l2 l3 l4 l5 l6 l7 : Option Value) (s0 : Int32) (s1 : Nat) (h : sx_H), sx_klass h s1 = some 6 → sx_Ev S 74 23 [l0, l1, l2, l3, l4, l5, l6, l7] [.int s0, .ref s1] h = sx_back S 74 23 [l0, l1, l2, l3, l4, l5, l6, l7] [] (sx_Cl S 72 [.ref s1, .int s0] h)) ∧
  (∀ (ls : sx_L) (st : List Value) (h : sx_H), sx_back S 74 23 ls st (some (.inl none, h)) = sx_Ev S 74 26 ls st h) ∧
  (∀ (ls : sx_L) (st : List Value) (e : Nat) (h : sx_H), sx_back S 74 23 ls st (some (.inr e, h)) = some (.inr e, h)) ∧
  (∀ (l0 l1 l2 l3 l4 l6 l7 : Option Value) (x : Nat) (h : sx_H), sx_Ev S 74 26 [l0, l1, l2, l3, l4, some (.ref x), l6, l7] [] h = sx_Ev S 74 28 [l0, l1, l2, l3, l4, some (.ref x), l6, l7] [.ref x] h) ∧
  (∀ (l0 l1 l2 l3 l4 l5 l6 l7 : Option Value) (s0 : Nat) (h : sx_H), sx_Ev S 74 28 [l0, l1, l2, l3, l4, l5, l6, l7] [.ref s0] h = sx_back S 74 28 [l0, l1, l2, l3, l4, l5, l6, l7] [] (sx_Cl S 73 [.ref s0] h)) ∧
  (∀ (ls : sx_L) (st : List Value) (h : sx_H), sx_back S 74 28 ls st (some (.inl none, h)) = sx_Ev S 74 31 ls st h) ∧
  (∀ (ls : sx_L) (st : List Value) (e : Nat) (h : sx_H), sx_back S 74 28 ls st (some (.inr e, h)) = some (.inr e, h)) ∧
  (∀ (l0 l1 l2 l3 l4 l6 l7 : Option Value) (x : Nat) (h : sx_H), sx_Ev S 74 31 [l0, l1, l2, l3, l4, some (.ref x), l6, l7] [] h = sx_Ev S 74 33 [l0, l1, l2, l3, l4, some (.ref x), l6, l7] [.ref x] h) ∧
  (∀ (l0 l1 l3 l4 l5 l6 l7 : Option Value) (s0 : Nat) (x : Int32) (h : sx_H), sx_Ev S 74 33 [l0, l1, some (.int x), l3, l4, l5, l6, l7] [.ref s0] h = sx_Ev S 74 34 [l0, l1, some (.int x), l3, l4, l5, l6, l7] [.int x, .ref s0] h) ∧
  (∀ (l0 l1 l2 l4 l5 l6 l7 : Option Value) (s0 : Int32) (s1 : Nat) (x : Int32) (h : sx_H), sx_Ev S 74 34 [l0, l1, l2, some (.int x), l4, l5, l6, l7] [.int s0, .ref s1] h = sx_Ev S 74 35 [l0, l1, l2, some (.int x), l4, l5, l6, l7] [.int x, .int s0, .ref s1] h) ∧
  (∀ (l0 l1 l2 l3 l4 l5 l6 l7 : Option Value) (s0 : Int32) (s1 : Int32) (s2 : Nat) (h : sx_H), sx_klass h s2 = some 0 → sx_Ev S 74 35 [l0, l1, l2, l3, l4, l5, l6, l7] [.int s0, .int s1, .ref s2] h = sx_back S 74 35 [l0, l1, l2, l3, l4, l5, l6, l7] [] (sx_Cl S 26 [.ref s2, .int s1, .int s0] h)) ∧
  (∀ (ls : sx_L) (st : List Value) (v : Value) (h : sx_H), sx_back S 74 35 ls st (some (.inl (some v), h)) = sx_Ev S 74 38 ls (v :: st) h) ∧
  (∀ (ls : sx_L) (st : List Value) (e : Nat) (h : sx_H), sx_back S 74 35 ls st (some (.inr e, h)) = some (.inr e, h)) ∧
  (∀ (l0 l1 l2 l3 l4 l5 l6 l7 : Option Value) (s0 : Int32) (h : sx_H), sx_Ev S 74 38 [l0, l1, l2, l3, l4, l5, l6, l7] [.int s0] h = sx_Ev S 74 40 [l0, l1, l2, l3, l4, l5, some (.int s0), l7] [] h) ∧
  (∀ (l0 l1 l2 l3 l4 l6 l7 : Option Value) (x : Nat) (h : sx_H), sx_Ev S 74 40 [l0, l1, l2, l3, l4, some (.ref x), l6, l7] [] h = sx_Ev S 74 42 [l0, l1, l2, l3, l4, some (.ref x), l6, l7] [.ref x] h) ∧
  (∀ (l0 l1 l2 l3 l4 l5 l7 : Option Value) (s0 : Nat) (x : Int32) (h : sx_H), sx_Ev S 74 42 [l0, l1, l2, l3, l4, l5, some (.int x), l7] [.ref s0] h = sx_Ev S 74 44 [l0, l1, l2, l3, l4, l5, some (.int x), l7] [.int x, .ref s0] h) ∧
  (∀ (l0 l1 l2 l3 l4 l5 l6 l7 : Option Value) (s0 : Int32) (s1 : Nat) (h : sx_H), sx_klass h s1 = some 0 → sx_Ev S 74 44 [l0, l1, l2, l3, l4, l5, l6, l7] [.int s0, .ref s1] h = sx_back S 74 44 [l0, l1, l2, l3, l4, l5, l6, l7] [] (sx_Cl S 27 [.ref s1, .int s0] h)) ∧
  (∀ (ls : sx_L) (st : List Value) (v : Value) (h : sx_H), sx_back S 74 44 ls st (some (.inl (some v), h)) = sx_Ev S 74 47 ls (v :: st) h) ∧
  (∀ (ls : sx_L) (st : List Value) (e : Nat) (h : sx_H), sx_back S 74 44 ls st (some (.inr e, h)) = some (.inr e, h)) ∧
  (∀ (l0 l1 l2 l3 l4 l5 l6 l7 : Option Value) (s0 : Int32) (h : sx_H), sx_Ev S 74 47 [l0, l1, l2, l3, l4, l5, l6, l7] [.int s0] h = sx_Ev S 74 49 [l0, l1, l2, l3, l4, l5, l6, some (.int s0)] [] h) ∧
  (∀ (l0 l1 l2 l3 l4 l6 l7 : Option Value) (x : Nat) (h : sx_H), sx_Ev S 74 49 [l0, l1, l2, l3, l4, some (.ref x), l6, l7] [] h = sx_Ev S 74 51 [l0, l1, l2, l3, l4, some (.ref x), l6, l7] [.ref x] h) ∧
  (∀ (l0 l1 l2 l3 l4 l5 l7 : Option Value) (s0 : Nat) (x : Int32) (h : sx_H), sx_Ev S 74 51 [l0, l1, l2, l3, l4, l5, some (.int x), l7] [.ref s0] h = sx_Ev S 74 53 [l0, l1, l2, l3, l4, l5, some (.int x), l7] [.int x, .ref s0] h) ∧
  (∀ (l0 l1 l2 l3 l5 l6 l7 : Option Value) (s0 : Int32) (s1 : Nat) (x : Int32) (h : sx_H), sx_Ev S 74 53 [l0, l1, l2, l3, some (.int x), l5, l6, l7] [.int s0, .ref s1] h = sx_Ev S 74 55 [l0, l1, l2, l3, some (.int x), l5, l6, l7] [.int x, .int s0, .ref s1] h) ∧
  (∀ (l0 l1 l2 l3 l4 l5 l6 l7 : Option Value) (s0 : Int32) (s1 : Int32) (s2 : Nat) (h : sx_H), sx_klass h s2 = some 0 → sx_Ev S 74 55 [l0, l1, l2, l3, l4, l5, l6, l7] [.int s0, .int s1, .ref s2] h = sx_back S 74 55 [l0, l1, l2, l3, l4, l5, l6, l7] [] (sx_Cl S 30 [.ref s2, .int s1, .int s0] h)) ∧
  (∀ (ls : sx_L) (st : List Value) (h : sx_H), sx_back S 74 55 ls st (some (.inl none, h)) = sx_Ev S 74 58 ls st h) ∧
  (∀ (ls : sx_L) (st : List Value) (e : Nat) (h : sx_H), sx_back S 74 55 ls st (some (.inr e, h)) = some (.inr e, h)) ∧
  (∀ (l0 l1 l2 l3 l4 l5 l6 : Option Value) (x : Int32) (h : sx_H), sx_Ev S 74 58 [l0, l1, l2, l3, l4, l5, l6, some (.int x)] [] h = sx_Ev S 74 60 [l0, l1, l2, l3, l4, l5, l6, some (.int x)] [.int x] h) ∧
  (∀ (l0 l1 l2 l3 l4 l5 l6 l7 : Option Value) (s0 : Int32) (h : sx_H), sx_Ev S 74 60 [l0, l1, l2, l3, l4, l5, l6, l7] [.int s0] h = some (.inl (some (.int s0)), h)) := ⟨fun _ _ _ _ _ _ _ _ _ => sx_e_nx rfl rfl,
  fun _ _ _ _ _ _ _ _ _ _ => sx_e_nx rfl rfl,
  fun _ _ _ _ _ _ _ _ _ _ _ hv => sx_e_virt rfl rfl ⟨Nat.le_of_ble_eq_true rfl, Nat.le_of_ble_eq_true rfl, rfl⟩ rfl rfl rfl hv,
  fun _ _ _ _ => rfl,
  fun _ _ _ _ => rfl,
  fun _ _ _ _ _ _ _ _ _ _ => sx_e_nx rfl rfl,
  fun _ _ _ _ _ _ _ _ _ => sx_e_nx rfl rfl,
  fun _ _ _ _ _ _ _ _ _ _ => sx_e_nx rfl rfl,
  fun _ _ _ _ _ _ _ _ _ _ _ => sx_e_nx rfl rfl,
  fun _ _ _ _ _ _ _ _ _ _ _ _ => sx_e_ca rfl rfl,
  fun _ _ _ => rfl,
  fun _ _ _ _ => rfl,
  fun _ _ _ _ _ _ _ _ _ => sx_e_nx rfl rfl,
  fun _ _ _ _ _ _ _ _ _ _ => sx_e_nx rfl rfl,
  fun _ _ _ _ _ _ _ _ _ _ _ => sx_e_ieq rfl (by decide) rfl,
  fun _ _ _ _ _ _ _ _ _ => sx_e_nx rfl rfl,
  fun _ _ _ _ _ _ _ _ _ _ => sx_e_nx rfl rfl,
  fun _ _ _ _ _ _ _ _ _ _ _ hv => sx_e_virt rfl rfl ⟨Nat.le_of_ble_eq_true rfl, Nat.le_of_ble_eq_true rfl, rfl⟩ rfl rfl rfl hv,
  fun _ _ _ => rfl,
  fun _ _ _ _ => rfl,
  fun _ _ _ _ _ _ _ _ _ => sx_e_nx rfl rfl,
  fun _ _ _ _ _ _ _ _ _ _ => sx_e_ca rfl rfl,
  fun _ _ _ => rfl,
  fun _ _ _ _ => rfl,
  fun _ _ _ _ _ _ _ _ _ => sx_e_nx rfl rfl,
  fun _ _ _ _ _ _ _ _ _ _ => sx_e_nx rfl rfl,
  fun _ _ _ _ _ _ _ _ _ _ _ => sx_e_nx rfl rfl,
  fun _ _ _ _ _ _ _ _ _ _ _ _ hv => sx_e_virt rfl rfl ⟨Nat.le_of_ble_eq_true rfl, Nat.le_of_ble_eq_true rfl, rfl⟩ rfl rfl rfl hv,
  fun _ _ _ _ => rfl,
  fun _ _ _ _ => rfl,
  fun _ _ _ _ _ _ _ _ _ _ => sx_e_nx rfl rfl,
  fun _ _ _ _ _ _ _ _ _ => sx_e_nx rfl rfl,
  fun _ _ _ _ _ _ _ _ _ _ => sx_e_nx rfl rfl,
  fun _ _ _ _ _ _ _ _ _ _ _ hv => sx_e_virt rfl rfl ⟨Nat.le_of_ble_eq_true rfl, Nat.le_of_ble_eq_true rfl, rfl⟩ rfl rfl rfl hv,
  fun _ _ _ _ => rfl,
  fun _ _ _ _ => rfl,
  fun _ _ _ _ _ _ _ _ _ _ => sx_e_nx rfl rfl,
  fun _ _ _ _ _ _ _ _ _ => sx_e_nx rfl rfl,
  fun _ _ _ _ _ _ _ _ _ _ => sx_e_nx rfl rfl,
  fun _ _ _ _ _ _ _ _ _ _ _ => sx_e_nx rfl rfl,
  fun _ _ _ _ _ _ _ _ _ _ _ _ hv => sx_e_virt rfl rfl ⟨Nat.le_of_ble_eq_true rfl, Nat.le_of_ble_eq_true rfl, rfl⟩ rfl rfl rfl hv,
  fun _ _ _ => rfl,
  fun _ _ _ _ => rfl,
  fun _ _ _ _ _ _ _ _ _ => sx_e_nx rfl rfl,
  fun _ _ _ _ _ _ _ _ _ _ => sx_e_ret rfl rfl rfl⟩
/-- 75: X10_kindAt (III)I -/
theorem c75_q (S : List Int32) : ∀ (a0 : Nat) (a1 : Int32) (a2 : Int32) (a3 : Int32) (h : sx_H), sx_Cl S 75 [.ref a0, .int a1, .int a2, .int a3] h = sx_Ev S 75 0 [some (.ref a0), some (.int a1), some (.int a2), some (.int a3), none] [] h := fun _ _ _ _ _ => rfl
theorem q75 (S : List Int32) : (∀ (l1 l2 l3 l4 : Option Value) (x : Nat) (h : sx_H), sx_Ev S 75 0 [some (.ref x), l1, l2, l3, l4] [] h = sx_Ev S 75 1 [some (.ref x), l1, l2, l3, l4] [.ref x] h) ∧
  (∀ (l0 l2 l3 l4 : Option Value) (s0 : Nat) (x : Int32) (h : sx_H), sx_Ev S 75 1 [l0, some (.int x), l2, l3, l4] [.ref s0] h = sx_Ev S 75 2 [l0, some (.int x), l2, l3, l4] [.int x, .ref s0] h) ∧
  (∀ (l0 l1 l2 l3 l4 : Option Value) (s0 : Int32) (s1 : Nat) (h : sx_H), sx_klass h s1 = some 6 → sx_Ev S 75 2 [l0, l1, l2, l3, l4] [.int s0, .ref s1] h = sx_back S 75 2 [l0, l1, l2, l3, l4] [] (sx_Cl S 70 [.ref s1, .int s0] h)) ∧
  (∀ (ls : sx_L) (st : List Value) (v : Value) (h : sx_H), sx_back S 75 2 ls st (some (.inl (some v), h)) = sx_Ev S 75 5 ls (v :: st) h) ∧
  (∀ (ls : sx_L) (st : List Value) (e : Nat) (h : sx_H), sx_back S 75 2 ls st (some (.inr e, h)) = some (.inr e, h)) ∧
  (∀ (l0 l1 l2 l3 l4 : Option Value) (s0 : Nat) (h : sx_H), sx_Ev S 75 5 [l0, l1, l2, l3, l4] [.ref s0] h = sx_Ev S 75 7 [l0, l1, l2, l3, some (.ref s0)] [] h) ∧
  (∀ (l0 l1 l2 l3 : Option Value) (x : Nat) (h : sx_H), sx_Ev S 75 7 [l0, l1, l2, l3, some (.ref x)] [] h = sx_Ev S 75 9 [l0, l1, l2, l3, some (.ref x)] [.ref x] h) ∧
  (∀ (l0 l1 l3 l4 : Option Value) (s0 : Nat) (x : Int32) (h : sx_H), sx_Ev S 75 9 [l0, l1, some (.int x), l3, l4] [.ref s0] h = sx_Ev S 75 10 [l0, l1, some (.int x), l3, l4] [.int x, .ref s0] h) ∧
  (∀ (l0 l1 l2 l4 : Option Value) (s0 : Int32) (s1 : Nat) (x : Int32) (h : sx_H), sx_Ev S 75 10 [l0, l1, l2, some (.int x), l4] [.int s0, .ref s1] h = sx_Ev S 75 11 [l0, l1, l2, some (.int x), l4] [.int x, .int s0, .ref s1] h) ∧
  (∀ (l0 l1 l2 l3 l4 : Option Value) (s0 : Int32) (s1 : Int32) (s2 : Nat) (h : sx_H), sx_Ev S 75 11 [l0, l1, l2, l3, l4] [.int s0, .int s1, .ref s2] h = sx_back S 75 11 [l0, l1, l2, l3, l4] [] (sx_Cl S 71 [.ref s2, .int s1, .int s0] h)) ∧
  (∀ (ls : sx_L) (st : List Value) (h : sx_H), sx_back S 75 11 ls st (some (.inl none, h)) = sx_Ev S 75 14 ls st h) ∧
  (∀ (ls : sx_L) (st : List Value) (e : Nat) (h : sx_H), sx_back S 75 11 ls st (some (.inr e, h)) = some (.inr e, h)) ∧
  (∀ (l0 l1 l2 l3 : Option Value) (x : Nat) (h : sx_H), sx_Ev S 75 14 [l0, l1, l2, l3, some (.ref x)] [] h = sx_Ev S 75 16 [l0, l1, l2, l3, some (.ref x)] [.ref x] h) ∧
  (∀ (l0 l1 l2 l3 : Option Value) (s0 : Nat) (x : Nat) (h : sx_H), sx_Ev S 75 16 [l0, l1, l2, l3, some (.ref x)] [.ref s0] h = sx_Ev S 75 18 [l0, l1, l2, l3, some (.ref x)] [.ref x, .ref s0] h) ∧
  (∀ (l0 l1 l3 l4 : Option Value) (s0 : Nat) (s1 : Nat) (x : Int32) (h : sx_H), sx_Ev S 75 18 [l0, l1, some (.int x), l3, l4] [.ref s0, .ref s1] h = sx_Ev S 75 19 [l0, l1, some (.int x), l3, l4] [.int x, .ref s0, .ref s1] h) ∧
  (∀ (l0 l1 l2 l4 : Option Value) (s0 : Int32) (s1 : Nat) (s2 : Nat) (x : Int32) (h : sx_H), sx_Ev S 75 19 [l0, l1, l2, some (.int x), l4] [.int s0, .ref s1, .ref s2] h = sx_Ev S 75 20 [l0, l1, l2, some (.int x), l4] [.int x, .int s0, .ref s1, .ref s2] h) ∧
  (∀ (l0 l1 l2 l3 l4 : Option Value) (s0 : Int32) (s1 : Int32) (s2 : Nat) (s3 : Nat) (h : sx_H), sx_klass h s2 = some 0 → sx_Ev S 75 20 [l0, l1, l2, l3, l4] [.int s0, .int s1, .ref s2, .ref s3] h = sx_back S 75 20 [l0, l1, l2, l3, l4] [.ref s3] (sx_Cl S 26 [.ref s2, .int s1, .int s0] h)) ∧
  (∀ (ls : sx_L) (st : List Value) (v : Value) (h : sx_H), sx_back S 75 20 ls st (some (.inl (some v), h)) = sx_Ev S 75 23 ls (v :: st) h) ∧
  (∀ (ls : sx_L) (st : List Value) (e : Nat) (h : sx_H), sx_back S 75 20 ls st (some (.inr e, h)) = some (.inr e, h)) ∧
  (∀ (l0 l1 l2 l3 l4 : Option Value) (s0 : Int32) (s1 : Nat) (h : sx_H), sx_klass h s1 = some 0 → sx_Ev S 75 23 [l0, l1, l2, l3, l4] [.int s0, .ref s1] h = sx_back S 75 23 [l0, l1, l2, l3, l4] [] (sx_Cl S 27 [.ref s1, .int s0] h)) ∧
  (∀ (ls : sx_L) (st : List Value) (v : Value) (h : sx_H), sx_back S 75 23 ls st (some (.inl (some v), h)) = sx_Ev S 75 26 ls (v :: st) h) ∧
  (∀ (ls : sx_L) (st : List Value) (e : Nat) (h : sx_H), sx_back S 75 23 ls st (some (.inr e, h)) = some (.inr e, h)) ∧
  (∀ (l0 l1 l2 l3 l4 : Option Value) (s0 : Int32) (h : sx_H), sx_Ev S 75 26 [l0, l1, l2, l3, l4] [.int s0] h = some (.inl (some (.int s0)), h)) := ⟨fun _ _ _ _ _ _ => sx_e_nx rfl rfl,
  fun _ _ _ _ _ _ _ => sx_e_nx rfl rfl,
  fun _ _ _ _ _ _ _ _ hv => sx_e_virt rfl rfl ⟨Nat.le_of_ble_eq_true rfl, Nat.le_of_ble_eq_true rfl, rfl⟩ rfl rfl rfl hv,
  fun _ _ _ _ => rfl,
  fun _ _ _ _ => rfl,
  fun _ _ _ _ _ _ _ => sx_e_nx rfl rfl,
  fun _ _ _ _ _ _ => sx_e_nx rfl rfl,
  fun _ _ _ _ _ _ _ => sx_e_nx rfl rfl,
  fun _ _ _ _ _ _ _ _ => sx_e_nx rfl rfl,
  fun _ _ _ _ _ _ _ _ _ => sx_e_ca rfl rfl,
  fun _ _ _ => rfl,
  fun _ _ _ _ => rfl,
  fun _ _ _ _ _ _ => sx_e_nx rfl rfl,
  fun _ _ _ _ _ _ _ => sx_e_nx rfl rfl,
  fun _ _ _ _ _ _ _ _ => sx_e_nx rfl rfl,
  fun _ _ _ _ _ _ _ _ _ => sx_e_nx rfl rfl,
  fun _ _ _ _ _ _ _ _ _ _ hv => sx_e_virt rfl rfl ⟨Nat.le_of_ble_eq_true rfl, Nat.le_of_ble_eq_true rfl, rfl⟩ rfl rfl rfl hv,
  fun _ _ _ _ => rfl,
  fun _ _ _ _ => rfl,
  fun _ _ _ _ _ _ _ _ hv => sx_e_virt rfl rfl ⟨Nat.le_of_ble_eq_true rfl, Nat.le_of_ble_eq_true rfl, rfl⟩ rfl rfl rfl hv,
  fun _ _ _ _ => rfl,
  fun _ _ _ _ => rfl,
  fun _ _ _ _ _ _ _ => sx_e_ret rfl rfl rfl⟩
/-- 76: X10_motif (IIII)I -/
theorem c76_q (S : List Int32) : ∀ (a0 : Nat) (a1 : Int32) (a2 : Int32) (a3 : Int32) (a4 : Int32) (h : sx_H), sx_Cl S 76 [.ref a0, .int a1, .int a2, .int a3, .int a4] h = sx_Ev S 76 0 [some (.ref a0), some (.int a1), some (.int a2), some (.int a3), some (.int a4), none] [] h := fun _ _ _ _ _ _ => rfl
theorem q76 (S : List Int32) : (∀ (l1 l2 l3 l4 l5 : Option Value) (x : Nat) (h : sx_H), sx_Ev S 76 0 [some (.ref x), l1, l2, l3, l4, l5] [] h = sx_Ev S 76 1 [some (.ref x), l1, l2, l3, l4, l5] [.ref x] h) ∧
  (∀ (l0 l2 l3 l4 l5 : Option Value) (s0 : Nat) (x : Int32) (h : sx_H), sx_Ev S 76 1 [l0, some (.int x), l2, l3, l4, l5] [.ref s0] h = sx_Ev S 76 2 [l0, some (.int x), l2, l3, l4, l5] [.int x, .ref s0] h) ∧
  (∀ (l0 l1 l2 l3 l4 l5 : Option Value) (s0 : Int32) (s1 : Nat) (h : sx_H), sx_klass h s1 = some 6 → sx_Ev S 76 2 [l0, l1, l2, l3, l4, l5] [.int s0, .ref s1] h = sx_back S 76 2 [l0, l1, l2, l3, l4, l5] [] (sx_Cl S 70 [.ref s1, .int s0] h)) ∧
  (∀ (ls : sx_L) (st : List Value) (v : Value) (h : sx_H), sx_back S 76 2 ls st (some (.inl (some v), h)) = sx_Ev S 76 5 ls (v :: st) h) ∧
  (∀ (ls : sx_L) (st : List Value) (e : Nat) (h : sx_H), sx_back S 76 2 ls st (some (.inr e, h)) = some (.inr e, h)) ∧
  (∀ (l0 l1 l2 l3 l4 l5 : Option Value) (s0 : Nat) (h : sx_H), sx_Ev S 76 5 [l0, l1, l2, l3, l4, l5] [.ref s0] h = sx_Ev S 76 7 [l0, l1, l2, l3, l4, some (.ref s0)] [] h) ∧
  (∀ (l0 l1 l3 l4 l5 : Option Value) (x : Int32) (h : sx_H), sx_Ev S 76 7 [l0, l1, some (.int x), l3, l4, l5] [] h = sx_Ev S 76 8 [l0, l1, some (.int x), l3, l4, l5] [.int x] h) ∧
  (∀ (l0 l1 l2 l3 l4 l5 : Option Value) (s0 : Int32) (h : sx_H), sx_Ev S 76 8 [l0, l1, l2, l3, l4, l5] [.int s0] h = sx_Ev S 76 9 [l0, l1, l2, l3, l4, l5] [.int (sz (1)), .int s0] h) ∧
  (∀ (l0 l1 l2 l3 l4 : Option Value) (s0 : Int32) (s1 : Int32) (x : Nat) (h : sx_H), sx_Ev S 76 9 [l0, l1, l2, l3, l4, some (.ref x)] [.int s0, .int s1] h = sx_Ev S 76 11 [l0, l1, l2, l3, l4, some (.ref x)] [.ref x, .int s0, .int s1] h) ∧
  (∀ (l0 l1 l2 l3 l4 l5 : Option Value) (s0 : Nat) (s1 : Int32) (s2 : Int32) (h : sx_H), sx_Ev S 76 11 [l0, l1, l2, l3, l4, l5] [.ref s0, .int s1, .int s2] h = (sx_fld h s0 0 2).bind fun v => sx_Ev S 76 14 [l0, l1, l2, l3, l4, l5] [v, .int s1, .int s2] h) ∧
  (∀ (l0 l1 l2 l3 l4 l5 : Option Value) (s0 : Int32) (s1 : Int32) (s2 : Int32) (h : sx_H), sx_Ev S 76 14 [l0, l1, l2, l3, l4, l5] [.int s0, .int s1, .int s2] h = sx_back S 76 14 [l0, l1, l2, l3, l4, l5] [] (sx_Cl S 66 [.int s2, .int s1, .int s0] h)) ∧
  (∀ (ls : sx_L) (st : List Value) (h : sx_H), sx_back S 76 14 ls st (some (.inl none, h)) = sx_Ev S 76 17 ls st h) ∧
  (∀ (ls : sx_L) (st : List Value) (e : Nat) (h : sx_H), sx_back S 76 14 ls st (some (.inr e, h)) = some (.inr e, h)) ∧
  (∀ (l0 l1 l2 l4 l5 : Option Value) (x : Int32) (h : sx_H), sx_Ev S 76 17 [l0, l1, l2, some (.int x), l4, l5] [] h = sx_Ev S 76 18 [l0, l1, l2, some (.int x), l4, l5] [.int x] h) ∧
  (∀ (l0 l1 l2 l3 l4 l5 : Option Value) (s0 : Int32) (h : sx_H), sx_Ev S 76 18 [l0, l1, l2, l3, l4, l5] [.int s0] h = sx_Ev S 76 19 [l0, l1, l2, l3, l4, l5] [.int (sz (1)), .int s0] h) ∧
  (∀ (l0 l1 l2 l3 l4 : Option Value) (s0 : Int32) (s1 : Int32) (x : Nat) (h : sx_H), sx_Ev S 76 19 [l0, l1, l2, l3, l4, some (.ref x)] [.int s0, .int s1] h = sx_Ev S 76 21 [l0, l1, l2, l3, l4, some (.ref x)] [.ref x, .int s0, .int s1] h) ∧
  (∀ (l0 l1 l2 l3 l4 l5 : Option Value) (s0 : Nat) (s1 : Int32) (s2 : Int32) (h : sx_H), sx_Ev S 76 21 [l0, l1, l2, l3, l4, l5] [.ref s0, .int s1, .int s2] h = (sx_fld h s0 0 3).bind fun v => sx_Ev S 76 24 [l0, l1, l2, l3, l4, l5] [v, .int s1, .int s2] h) ∧
  (∀ (l0 l1 l2 l3 l4 l5 : Option Value) (s0 : Int32) (s1 : Int32) (s2 : Int32) (h : sx_H), sx_Ev S 76 24 [l0, l1, l2, l3, l4, l5] [.int s0, .int s1, .int s2] h = sx_back S 76 24 [l0, l1, l2, l3, l4, l5] [] (sx_Cl S 66 [.int s2, .int s1, .int s0] h)) ∧
  (∀ (ls : sx_L) (st : List Value) (h : sx_H), sx_back S 76 24 ls st (some (.inl none, h)) = sx_Ev S 76 27 ls st h) ∧
  (∀ (ls : sx_L) (st : List Value) (e : Nat) (h : sx_H), sx_back S 76 24 ls st (some (.inr e, h)) = some (.inr e, h)) ∧
  (∀ (l0 l1 l2 l3 l5 : Option Value) (x : Int32) (h : sx_H), sx_Ev S 76 27 [l0, l1, l2, l3, some (.int x), l5] [] h = sx_Ev S 76 29 [l0, l1, l2, l3, some (.int x), l5] [.int x] h) ∧
  (∀ (l0 l1 l2 l3 l4 l5 : Option Value) (s0 : Int32) (h : sx_H), sx_Ev S 76 29 [l0, l1, l2, l3, l4, l5] [.int s0] h = sx_Ev S 76 31 [l0, l1, l2, l3, l4, l5] [.int (sz (-12)), .int s0] h) ∧
  (∀ (l0 l1 l2 l3 l4 l5 : Option Value) (s0 : Int32) (s1 : Int32) (h : sx_H), sx_Ev S 76 31 [l0, l1, l2, l3, l4, l5] [.int s0, .int s1] h = sx_Ev S 76 33 [l0, l1, l2, l3, l4, l5] [.int (sz (12)), .int s0, .int s1] h) ∧
  (∀ (l0 l1 l2 l3 l4 l5 : Option Value) (s0 : Int32) (s1 : Int32) (s2 : Int32) (h : sx_H), sx_Ev S 76 33 [l0, l1, l2, l3, l4, l5] [.int s0, .int s1, .int s2] h = sx_back S 76 33 [l0, l1, l2, l3, l4, l5] [] (sx_Cl S 66 [.int s2, .int s1, .int s0] h)) ∧
  (∀ (ls : sx_L) (st : List Value) (h : sx_H), sx_back S 76 33 ls st (some (.inl none, h)) = sx_Ev S 76 36 ls st h) ∧
  (∀ (ls : sx_L) (st : List Value) (e : Nat) (h : sx_H), sx_back S 76 33 ls st (some (.inr e, h)) = some (.inr e, h)) ∧
  (∀ (l0 l1 l2 l3 l4 : Option Value) (x : Nat) (h : sx_H), sx_Ev S 76 36 [l0, l1, l2, l3, l4, some (.ref x)] [] h = sx_Ev S 76 38 [l0, l1, l2, l3, l4, some (.ref x)] [.ref x] h) ∧
  (∀ (l0 l1 l2 l3 l4 l5 : Option Value) (s0 : Nat) (h : sx_H), sx_Ev S 76 38 [l0, l1, l2, l3, l4, l5] [.ref s0] h = sx_back S 76 38 [l0, l1, l2, l3, l4, l5] [] (sx_Cl S 73 [.ref s0] h)) ∧
  (∀ (ls : sx_L) (st : List Value) (h : sx_H), sx_back S 76 38 ls st (some (.inl none, h)) = sx_Ev S 76 41 ls st h) ∧
  (∀ (ls : sx_L) (st : List Value) (e : Nat) (h : sx_H), sx_back S 76 38 ls st (some (.inr e, h)) = some (.inr e, h)) ∧
  (∀ (l0 l1 l2 l3 l4 : Option Value) (x : Nat) (h : sx_H), sx_Ev S 76 41 [l0, l1, l2, l3, l4, some (.ref x)] [] h = sx_Ev S 76 43 [l0, l1, l2, l3, l4, some (.ref x)] [.ref x] h) ∧
  (∀ (l0 l1 l3 l4 l5 : Option Value) (s0 : Nat) (x : Int32) (h : sx_H), sx_Ev S 76 43 [l0, l1, some (.int x), l3, l4, l5] [.ref s0] h = sx_Ev S 76 44 [l0, l1, some (.int x), l3, l4, l5] [.int x, .ref s0] h) ∧
  (∀ (l0 l1 l2 l4 l5 : Option Value) (s0 : Int32) (s1 : Nat) (x : Int32) (h : sx_H), sx_Ev S 76 44 [l0, l1, l2, some (.int x), l4, l5] [.int s0, .ref s1] h = sx_Ev S 76 45 [l0, l1, l2, some (.int x), l4, l5] [.int x, .int s0, .ref s1] h) ∧
  (∀ (l0 l1 l2 l3 l4 l5 : Option Value) (s0 : Int32) (s1 : Int32) (s2 : Nat) (h : sx_H), sx_klass h s2 = some 0 → sx_Ev S 76 45 [l0, l1, l2, l3, l4, l5] [.int s0, .int s1, .ref s2] h = sx_back S 76 45 [l0, l1, l2, l3, l4, l5] [] (sx_Cl S 34 [.ref s2, .int s1, .int s0] h)) ∧
  (∀ (ls : sx_L) (st : List Value) (v : Value) (h : sx_H), sx_back S 76 45 ls st (some (.inl (some v), h)) = sx_Ev S 76 48 ls (v :: st) h) ∧
  (∀ (ls : sx_L) (st : List Value) (e : Nat) (h : sx_H), sx_back S 76 45 ls st (some (.inr e, h)) = some (.inr e, h)) ∧
  (∀ (l0 l1 l2 l3 l4 l5 : Option Value) (s0 : Int32) (h : sx_H), sx_Ev S 76 48 [l0, l1, l2, l3, l4, l5] [.int s0] h = if s0 = 0 then sx_Ev S 76 61 [l0, l1, l2, l3, l4, l5] [] h else sx_Ev S 76 51 [l0, l1, l2, l3, l4, l5] [] h) ∧
  (∀ (l0 l1 l2 l3 l4 l5 : Option Value) (h : sx_H), sx_Ev S 76 51 [l0, l1, l2, l3, l4, l5] [] h = some (.inr 3, sx_push h none 6)) ∧
  (∀ (l0 l1 l2 l3 l4 : Option Value) (x : Nat) (h : sx_H), sx_Ev S 76 61 [l0, l1, l2, l3, l4, some (.ref x)] [] h = sx_Ev S 76 63 [l0, l1, l2, l3, l4, some (.ref x)] [.ref x] h) ∧
  (∀ (l0 l1 l3 l4 l5 : Option Value) (s0 : Nat) (x : Int32) (h : sx_H), sx_Ev S 76 63 [l0, l1, some (.int x), l3, l4, l5] [.ref s0] h = sx_Ev S 76 64 [l0, l1, some (.int x), l3, l4, l5] [.int x, .ref s0] h) ∧
  (∀ (l0 l1 l2 l4 l5 : Option Value) (s0 : Int32) (s1 : Nat) (x : Int32) (h : sx_H), sx_Ev S 76 64 [l0, l1, l2, some (.int x), l4, l5] [.int s0, .ref s1] h = sx_Ev S 76 65 [l0, l1, l2, some (.int x), l4, l5] [.int x, .int s0, .ref s1] h) ∧
  (∀ (l0 l1 l2 l3 l5 : Option Value) (s0 : Int32) (s1 : Int32) (s2 : Nat) (x : Int32) (h : sx_H), sx_Ev S 76 65 [l0, l1, l2, l3, some (.int x), l5] [.int s0, .int s1, .ref s2] h = sx_Ev S 76 67 [l0, l1, l2, l3, some (.int x), l5] [.int x, .int s0, .int s1, .ref s2] h) ∧
  (∀ (l0 l1 l2 l3 l4 l5 : Option Value) (s0 : Int32) (s1 : Int32) (s2 : Int32) (s3 : Nat) (h : sx_H), sx_klass h s3 = some 0 → sx_Ev S 76 67 [l0, l1, l2, l3, l4, l5] [.int s0, .int s1, .int s2, .ref s3] h = sx_back S 76 67 [l0, l1, l2, l3, l4, l5] [] (sx_Cl S 36 [.ref s3, .int s2, .int s1, .int s0] h)) ∧
  (∀ (ls : sx_L) (st : List Value) (v : Value) (h : sx_H), sx_back S 76 67 ls st (some (.inl (some v), h)) = sx_Ev S 76 70 ls (v :: st) h) ∧
  (∀ (ls : sx_L) (st : List Value) (e : Nat) (h : sx_H), sx_back S 76 67 ls st (some (.inr e, h)) = some (.inr e, h)) ∧
  (∀ (l0 l1 l2 l3 l4 l5 : Option Value) (s0 : Int32) (h : sx_H), sx_Ev S 76 70 [l0, l1, l2, l3, l4, l5] [.int s0] h = some (.inl (some (.int s0)), h)) := ⟨fun _ _ _ _ _ _ _ => sx_e_nx rfl rfl,
  fun _ _ _ _ _ _ _ _ => sx_e_nx rfl rfl,
  fun _ _ _ _ _ _ _ _ _ hv => sx_e_virt rfl rfl ⟨Nat.le_of_ble_eq_true rfl, Nat.le_of_ble_eq_true rfl, rfl⟩ rfl rfl rfl hv,
  fun _ _ _ _ => rfl,
  fun _ _ _ _ => rfl,
  fun _ _ _ _ _ _ _ _ => sx_e_nx rfl rfl,
  fun _ _ _ _ _ _ _ => sx_e_nx rfl rfl,
  fun _ _ _ _ _ _ _ _ => sx_e_nx rfl rfl,
  fun _ _ _ _ _ _ _ _ _ => sx_e_nx rfl rfl,
  fun _ _ _ _ _ _ _ _ _ _ => sx_e_getf rfl rfl (by decide) rfl,
  fun _ _ _ _ _ _ _ _ _ _ => sx_e_ca rfl rfl,
  fun _ _ _ => rfl,
  fun _ _ _ _ => rfl,
  fun _ _ _ _ _ _ _ => sx_e_nx rfl rfl,
  fun _ _ _ _ _ _ _ _ => sx_e_nx rfl rfl,
  fun _ _ _ _ _ _ _ _ _ => sx_e_nx rfl rfl,
  fun _ _ _ _ _ _ _ _ _ _ => sx_e_getf rfl rfl (by decide) rfl,
  fun _ _ _ _ _ _ _ _ _ _ => sx_e_ca rfl rfl,
  fun _ _ _ => rfl,
  fun _ _ _ _ => rfl,
  fun _ _ _ _ _ _ _ => sx_e_nx rfl rfl,
  fun _ _ _ _ _ _ _ _ => sx_e_bi rfl (by decide +kernel) rfl,
  fun _ _ _ _ _ _ _ _ _ => sx_e_bi rfl (by decide +kernel) rfl,
  fun _ _ _ _ _ _ _ _ _ _ => sx_e_ca rfl rfl,
  fun _ _ _ => rfl,
  fun _ _ _ _ => rfl,
  fun _ _ _ _ _ _ _ => sx_e_nx rfl rfl,
  fun _ _ _ _ _ _ _ _ => sx_e_ca rfl rfl,
  fun _ _ _ => rfl,
  fun _ _ _ _ => rfl,
  fun _ _ _ _ _ _ _ => sx_e_nx rfl rfl,
  fun _ _ _ _ _ _ _ _ => sx_e_nx rfl rfl,
  fun _ _ _ _ _ _ _ _ _ => sx_e_nx rfl rfl,
  fun _ _ _ _ _ _ _ _ _ _ hv => sx_e_virt rfl rfl ⟨Nat.le_of_ble_eq_true rfl, Nat.le_of_ble_eq_true rfl, rfl⟩ rfl rfl rfl hv,
  fun _ _ _ _ => rfl,
  fun _ _ _ _ => rfl,
  fun _ _ _ _ _ _ _ _ => sx_e_eq rfl (by decide) rfl,
  fun _ _ _ _ _ _ _ => sx_e_dn rfl rfl,
  fun _ _ _ _ _ _ _ => sx_e_nx rfl rfl,
  fun _ _ _ _ _ _ _ _ => sx_e_nx rfl rfl,
  fun _ _ _ _ _ _ _ _ _ => sx_e_nx rfl rfl,
  fun _ _ _ _ _ _ _ _ _ _ => sx_e_nx rfl rfl,
  fun _ _ _ _ _ _ _ _ _ _ _ hv => sx_e_virt rfl rfl ⟨Nat.le_of_ble_eq_true rfl, Nat.le_of_ble_eq_true rfl, rfl⟩ rfl rfl rfl hv,
  fun _ _ _ _ => rfl,
  fun _ _ _ _ => rfl,
  fun _ _ _ _ _ _ _ _ => sx_e_ret rfl rfl rfl⟩
/-- 77: X10_setRules (II)I -/
theorem c77_q (S : List Int32) : ∀ (a0 : Nat) (a1 : Int32) (a2 : Int32) (h : sx_H), sx_Cl S 77 [.ref a0, .int a1, .int a2] h = sx_Ev S 77 0 [some (.ref a0), some (.int a1), some (.int a2), none, none] [] h := fun _ _ _ _ => rfl
theorem q77 (S : List Int32) : (∀ (l1 l2 l3 l4 : Option Value) (x : Nat) (h : sx_H), sx_Ev S 77 0 [some (.ref x), l1, l2, l3, l4] [] h = sx_Ev S 77 1 [some (.ref x), l1, l2, l3, l4] [.ref x] h) ∧
  (∀ (l0 l2 l3 l4 : Option Value) (s0 : Nat) (x : Int32) (h : sx_H), sx_Ev S 77 1 [l0, some (.int x), l2, l3, l4] [.ref s0] h = sx_Ev S 77 2 [l0, some (.int x), l2, l3, l4] [.int x, .ref s0] h) ∧
  (∀ (l0 l1 l2 l3 l4 : Option Value) (s0 : Int32) (s1 : Nat) (h : sx_H), sx_klass h s1 = some 6 → sx_Ev S 77 2 [l0, l1, l2, l3, l4] [.int s0, .ref s1] h = sx_back S 77 2 [l0, l1, l2, l3, l4] [] (sx_Cl S 70 [.ref s1, .int s0] h)) ∧
  (∀ (ls : sx_L) (st : List Value) (v : Value) (h : sx_H), sx_back S 77 2 ls st (some (.inl (some v), h)) = sx_Ev S 77 5 ls (v :: st) h) ∧
  (∀ (ls : sx_L) (st : List Value) (e : Nat) (h : sx_H), sx_back S 77 2 ls st (some (.inr e, h)) = some (.inr e, h)) ∧
  (∀ (l0 l1 l2 l3 l4 : Option Value) (s0 : Nat) (h : sx_H), sx_Ev S 77 5 [l0, l1, l2, l3, l4] [.ref s0] h = sx_Ev S 77 6 [l0, l1, l2, some (.ref s0), l4] [] h) ∧
  (∀ (l0 l1 l3 l4 : Option Value) (x : Int32) (h : sx_H), sx_Ev S 77 6 [l0, l1, some (.int x), l3, l4] [] h = sx_Ev S 77 7 [l0, l1, some (.int x), l3, l4] [.int x] h) ∧
  (∀ (l0 l1 l2 l3 l4 : Option Value) (s0 : Int32) (h : sx_H), sx_Ev S 77 7 [l0, l1, l2, l3, l4] [.int s0] h = sx_Ev S 77 8 [l0, l1, l2, l3, l4] [.int (sz (0)), .int s0] h) ∧
  (∀ (l0 l1 l2 l3 l4 : Option Value) (s0 : Int32) (s1 : Int32) (h : sx_H), sx_Ev S 77 8 [l0, l1, l2, l3, l4] [.int s0, .int s1] h = sx_Ev S 77 10 [l0, l1, l2, l3, l4] [.int (sz (15)), .int s0, .int s1] h) ∧
  (∀ (l0 l1 l2 l3 l4 : Option Value) (s0 : Int32) (s1 : Int32) (s2 : Int32) (h : sx_H), sx_Ev S 77 10 [l0, l1, l2, l3, l4] [.int s0, .int s1, .int s2] h = sx_back S 77 10 [l0, l1, l2, l3, l4] [] (sx_Cl S 66 [.int s2, .int s1, .int s0] h)) ∧
  (∀ (ls : sx_L) (st : List Value) (h : sx_H), sx_back S 77 10 ls st (some (.inl none, h)) = sx_Ev S 77 13 ls st h) ∧
  (∀ (ls : sx_L) (st : List Value) (e : Nat) (h : sx_H), sx_back S 77 10 ls st (some (.inr e, h)) = some (.inr e, h)) ∧
  (∀ (l0 l1 l2 l4 : Option Value) (x : Nat) (h : sx_H), sx_Ev S 77 13 [l0, l1, l2, some (.ref x), l4] [] h = sx_Ev S 77 14 [l0, l1, l2, some (.ref x), l4] [.ref x] h) ∧
  (∀ (l0 l1 l2 l3 l4 : Option Value) (s0 : Nat) (h : sx_H), sx_Ev S 77 14 [l0, l1, l2, l3, l4] [.ref s0] h = (sx_fld h s0 0 10).bind fun v => sx_Ev S 77 17 [l0, l1, l2, l3, l4] [v] h) ∧
  (∀ (l0 l1 l2 l3 l4 : Option Value) (s0 : Int32) (h : sx_H), sx_Ev S 77 17 [l0, l1, l2, l3, l4] [.int s0] h = sx_Ev S 77 19 [l0, l1, l2, l3, some (.int s0)] [] h) ∧
  (∀ (l0 l1 l2 l4 : Option Value) (x : Nat) (h : sx_H), sx_Ev S 77 19 [l0, l1, l2, some (.ref x), l4] [] h = sx_Ev S 77 20 [l0, l1, l2, some (.ref x), l4] [.ref x] h) ∧
  (∀ (l0 l1 l3 l4 : Option Value) (s0 : Nat) (x : Int32) (h : sx_H), sx_Ev S 77 20 [l0, l1, some (.int x), l3, l4] [.ref s0] h = sx_Ev S 77 21 [l0, l1, some (.int x), l3, l4] [.int x, .ref s0] h) ∧
  (∀ (l0 l1 l2 l3 l4 : Option Value) (s0 : Int32) (s1 : Nat) (h : sx_H), sx_Ev S 77 21 [l0, l1, l2, l3, l4] [.int s0, .ref s1] h = (sx_fst h s1 0 10 (.int s0)).bind fun h => sx_Ev S 77 24 [l0, l1, l2, l3, l4] [] h) ∧
  (∀ (l0 l1 l2 l3 : Option Value) (x : Int32) (h : sx_H), sx_Ev S 77 24 [l0, l1, l2, l3, some (.int x)] [] h = sx_Ev S 77 26 [l0, l1, l2, l3, some (.int x)] [.int x] h) ∧
  (∀ (l0 l1 l2 l3 l4 : Option Value) (s0 : Int32) (h : sx_H), sx_Ev S 77 26 [l0, l1, l2, l3, l4] [.int s0] h = some (.inl (some (.int s0)), h)) := ⟨fun _ _ _ _ _ _ => sx_e_nx rfl rfl,
  fun _ _ _ _ _ _ _ => sx_e_nx rfl rfl,
  fun _ _ _ _ _ _ _ _ hv => sx_e_virt rfl rfl ⟨Nat.le_of_ble_eq_true rfl, Nat.le_of_ble_eq_true rfl, rfl⟩ rfl rfl rfl hv,
  fun _ _ _ _ => rfl,
  fun _ _ _ _ => rfl,
  fun _ _ _ _ _ _ _ => sx_e_nx rfl rfl,
  fun _ _ _ _ _ _ => sx_e_nx rfl rfl,
  fun _ _ _ _ _ _ _ => sx_e_nx rfl rfl,
  fun _ _ _ _ _ _ _ _ => sx_e_bi rfl (by decide +kernel) rfl,
  fun _ _ _ _ _ _ _ _ _ => sx_e_ca rfl rfl,
  fun _ _ _ => rfl,
  fun _ _ _ _ => rfl,
  fun _ _ _ _ _ _ => sx_e_nx rfl rfl,
  fun _ _ _ _ _ _ _ => sx_e_getf rfl rfl (by decide) rfl,
  fun _ _ _ _ _ _ _ => sx_e_nx rfl rfl,
  fun _ _ _ _ _ _ => sx_e_nx rfl rfl,
  fun _ _ _ _ _ _ _ => sx_e_nx rfl rfl,
  fun _ _ _ _ _ _ _ _ => sx_e_putf rfl rfl (by decide +kernel) ⟨rfl, rfl⟩ rfl,
  fun _ _ _ _ _ _ => sx_e_nx rfl rfl,
  fun _ _ _ _ _ _ _ => sx_e_ret rfl rfl rfl⟩
/-- 78: X10_broken (II)I -/
theorem c78_q (S : List Int32) : ∀ (a0 : Nat) (a1 : Int32) (a2 : Int32) (h : sx_H), sx_Cl S 78 [.ref a0, .int a1, .int a2] h = sx_Ev S 78 0 [some (.ref a0), some (.int a1), some (.int a2), none] [] h := fun _ _ _ _ => rfl
theorem q78 (S : List Int32) : (∀ (l1 l2 l3 : Option Value) (x : Nat) (h : sx_H), sx_Ev S 78 0 [some (.ref x), l1, l2, l3] [] h = sx_Ev S 78 1 [some (.ref x), l1, l2, l3] [.ref x] h) ∧
  (∀ (l0 l2 l3 : Option Value) (s0 : Nat) (x : Int32) (h : sx_H), sx_Ev S 78 1 [l0, some (.int x), l2, l3] [.ref s0] h = sx_Ev S 78 2 [l0, some (.int x), l2, l3] [.int x, .ref s0] h) ∧
  (∀ (l0 l1 l2 l3 : Option Value) (s0 : Int32) (s1 : Nat) (h : sx_H), sx_klass h s1 = some 6 → sx_Ev S 78 2 [l0, l1, l2, l3] [.int s0, .ref s1] h = sx_back S 78 2 [l0, l1, l2, l3] [] (sx_Cl S 70 [.ref s1, .int s0] h)) ∧
  (∀ (ls : sx_L) (st : List Value) (v : Value) (h : sx_H), sx_back S 78 2 ls st (some (.inl (some v), h)) = sx_Ev S 78 5 ls (v :: st) h) ∧
  (∀ (ls : sx_L) (st : List Value) (e : Nat) (h : sx_H), sx_back S 78 2 ls st (some (.inr e, h)) = some (.inr e, h)) ∧
  (∀ (l0 l1 l2 l3 : Option Value) (s0 : Nat) (h : sx_H), sx_Ev S 78 5 [l0, l1, l2, l3] [.ref s0] h = sx_Ev S 78 6 [l0, l1, l2, some (.ref s0)] [] h) ∧
  (∀ (l0 l1 l3 : Option Value) (x : Int32) (h : sx_H), sx_Ev S 78 6 [l0, l1, some (.int x), l3] [] h = sx_Ev S 78 7 [l0, l1, some (.int x), l3] [.int x] h) ∧
  (∀ (l0 l1 l2 l3 : Option Value) (s0 : Int32) (h : sx_H), sx_Ev S 78 7 [l0, l1, l2, l3] [.int s0] h = sx_back S 78 7 [l0, l1, l2, l3] [] (sx_Cl S 58 [.int s0] h)) ∧
  (∀ (ls : sx_L) (st : List Value) (v : Value) (h : sx_H), sx_back S 78 7 ls st (some (.inl (some v), h)) = sx_Ev S 78 10 ls (v :: st) h) ∧
  (∀ (ls : sx_L) (st : List Value) (e : Nat) (h : sx_H), sx_back S 78 7 ls st (some (.inr e, h)) = some (.inr e, h)) ∧
  (∀ (l0 l1 l2 l3 : Option Value) (s0 : Int32) (h : sx_H), sx_Ev S 78 10 [l0, l1, l2, l3] [.int s0] h = if s0 = 0 then sx_Ev S 78 13 [l0, l1, l2, l3] [] h else sx_Ev S 78 23 [l0, l1, l2, l3] [] h) ∧
  (∀ (l0 l1 l2 l3 : Option Value) (h : sx_H), sx_Ev S 78 13 [l0, l1, l2, l3] [] h = some (.inr 0, sx_push h none 6)) ∧
  (∀ (l0 l1 l2 : Option Value) (x : Nat) (h : sx_H), sx_Ev S 78 23 [l0, l1, l2, some (.ref x)] [] h = sx_Ev S 78 24 [l0, l1, l2, some (.ref x)] [.ref x] h) ∧
  (∀ (l0 l1 l3 : Option Value) (s0 : Nat) (x : Int32) (h : sx_H), sx_Ev S 78 24 [l0, l1, some (.int x), l3] [.ref s0] h = sx_Ev S 78 25 [l0, l1, some (.int x), l3] [.int x, .ref s0] h) ∧
  (∀ (l0 l1 l2 l3 : Option Value) (s0 : Int32) (s1 : Nat) (h : sx_H), sx_Ev S 78 25 [l0, l1, l2, l3] [.int s0, .ref s1] h = sx_back S 78 25 [l0, l1, l2, l3] [] (sx_Cl S 47 [.ref s1, .int s0] h)) ∧
  (∀ (ls : sx_L) (st : List Value) (v : Value) (h : sx_H), sx_back S 78 25 ls st (some (.inl (some v), h)) = sx_Ev S 78 28 ls (v :: st) h) ∧
  (∀ (ls : sx_L) (st : List Value) (e : Nat) (h : sx_H), sx_back S 78 25 ls st (some (.inr e, h)) = some (.inr e, h)) ∧
  (∀ (l0 l1 l2 l3 : Option Value) (s0 : Int32) (h : sx_H), sx_Ev S 78 28 [l0, l1, l2, l3] [.int s0] h = some (.inl (some (.int s0)), h)) := ⟨fun _ _ _ _ _ => sx_e_nx rfl rfl,
  fun _ _ _ _ _ _ => sx_e_nx rfl rfl,
  fun _ _ _ _ _ _ _ hv => sx_e_virt rfl rfl ⟨Nat.le_of_ble_eq_true rfl, Nat.le_of_ble_eq_true rfl, rfl⟩ rfl rfl rfl hv,
  fun _ _ _ _ => rfl,
  fun _ _ _ _ => rfl,
  fun _ _ _ _ _ _ => sx_e_nx rfl rfl,
  fun _ _ _ _ _ => sx_e_nx rfl rfl,
  fun _ _ _ _ _ _ => sx_e_ca rfl rfl,
  fun _ _ _ _ => rfl,
  fun _ _ _ _ => rfl,
  fun _ _ _ _ _ _ => sx_e_ne rfl (by decide) rfl,
  fun _ _ _ _ _ => sx_e_dn rfl rfl,
  fun _ _ _ _ _ => sx_e_nx rfl rfl,
  fun _ _ _ _ _ _ => sx_e_nx rfl rfl,
  fun _ _ _ _ _ _ _ => sx_e_ca rfl rfl,
  fun _ _ _ _ => rfl,
  fun _ _ _ _ => rfl,
  fun _ _ _ _ _ _ => sx_e_ret rfl rfl rfl⟩
/-- 79: X10_requireFillable (LBeadslant$Cloth;I)V -/
theorem c79_q (S : List Int32) : ∀ (a0 : Nat) (a1 : Nat) (a2 : Int32) (h : sx_H), sx_Cl S 79 [.ref a0, .ref a1, .int a2] h = sx_Ev S 79 0 [some (.ref a0), some (.ref a1), some (.int a2)] [] h := fun _ _ _ _ => rfl
theorem q79 (S : List Int32) : (∀ (l0 l1 : Option Value) (x : Int32) (h : sx_H), sx_Ev S 79 0 [l0, l1, some (.int x)] [] h = sx_Ev S 79 1 [l0, l1, some (.int x)] [.int x] h) ∧
  (∀ (l0 l1 l2 : Option Value) (s0 : Int32) (h : sx_H), sx_Ev S 79 1 [l0, l1, l2] [.int s0] h = sx_Ev S 79 2 [l0, l1, l2] [.int (sz (1)), .int s0] h) ∧
  (∀ (l0 l1 l2 : Option Value) (s0 : Int32) (s1 : Int32) (h : sx_H), sx_Ev S 79 2 [l0, l1, l2] [.int s0, .int s1] h = sx_Ev S 79 3 [l0, l1, l2] [.int (sz (4)), .int s0, .int s1] h) ∧
  (∀ (l0 l1 l2 : Option Value) (s0 : Int32) (s1 : Int32) (s2 : Int32) (h : sx_H), sx_Ev S 79 3 [l0, l1, l2] [.int s0, .int s1, .int s2] h = sx_back S 79 3 [l0, l1, l2] [] (sx_Cl S 66 [.int s2, .int s1, .int s0] h)) ∧
  (∀ (ls : sx_L) (st : List Value) (h : sx_H), sx_back S 79 3 ls st (some (.inl none, h)) = sx_Ev S 79 6 ls st h) ∧
  (∀ (ls : sx_L) (st : List Value) (e : Nat) (h : sx_H), sx_back S 79 3 ls st (some (.inr e, h)) = some (.inr e, h)) ∧
  (∀ (l0 l2 : Option Value) (x : Nat) (h : sx_H), sx_Ev S 79 6 [l0, some (.ref x), l2] [] h = sx_Ev S 79 7 [l0, some (.ref x), l2] [.ref x] h) ∧
  (∀ (l0 l1 l2 : Option Value) (s0 : Nat) (h : sx_H), sx_Ev S 79 7 [l0, l1, l2] [.ref s0] h = sx_back S 79 7 [l0, l1, l2] [] (sx_Cl S 73 [.ref s0] h)) ∧
  (∀ (ls : sx_L) (st : List Value) (h : sx_H), sx_back S 79 7 ls st (some (.inl none, h)) = sx_Ev S 79 10 ls st h) ∧
  (∀ (ls : sx_L) (st : List Value) (e : Nat) (h : sx_H), sx_back S 79 7 ls st (some (.inr e, h)) = some (.inr e, h)) ∧
  (∀ (l0 l2 : Option Value) (x : Nat) (h : sx_H), sx_Ev S 79 10 [l0, some (.ref x), l2] [] h = sx_Ev S 79 11 [l0, some (.ref x), l2] [.ref x] h) ∧
  (∀ (l0 l1 l2 : Option Value) (s0 : Nat) (h : sx_H), sx_Ev S 79 11 [l0, l1, l2] [.ref s0] h = sx_Ev S 79 12 [l0, l1, l2] [.int (sz (-1)), .ref s0] h) ∧
  (∀ (l0 l1 l2 : Option Value) (s0 : Int32) (s1 : Nat) (h : sx_H), sx_klass h s1 = some 0 → sx_Ev S 79 12 [l0, l1, l2] [.int s0, .ref s1] h = sx_back S 79 12 [l0, l1, l2] [] (sx_Cl S 31 [.ref s1, .int s0] h)) ∧
  (∀ (ls : sx_L) (st : List Value) (v : Value) (h : sx_H), sx_back S 79 12 ls st (some (.inl (some v), h)) = sx_Ev S 79 15 ls (v :: st) h) ∧
  (∀ (ls : sx_L) (st : List Value) (e : Nat) (h : sx_H), sx_back S 79 12 ls st (some (.inr e, h)) = some (.inr e, h)) ∧
  (∀ (l0 l1 l2 : Option Value) (s0 : Int32) (h : sx_H), sx_Ev S 79 15 [l0, l1, l2] [.int s0] h = sx_Ev S 79 17 [l0, l1, l2] [.int (sz (6)), .int s0] h) ∧
  (∀ (l0 l1 l2 : Option Value) (s0 : Int32) (s1 : Int32) (h : sx_H), sx_Ev S 79 17 [l0, l1, l2] [.int s0, .int s1] h = if s0 < s1 then sx_Ev S 79 31 [l0, l1, l2] [] h else sx_Ev S 79 20 [l0, l1, l2] [] h) ∧
  (∀ (l0 l1 : Option Value) (x : Int32) (h : sx_H), sx_Ev S 79 20 [l0, l1, some (.int x)] [] h = sx_Ev S 79 21 [l0, l1, some (.int x)] [.int x] h) ∧
  (∀ (l1 l2 : Option Value) (s0 : Int32) (x : Nat) (h : sx_H), sx_Ev S 79 21 [some (.ref x), l1, l2] [.int s0] h = sx_Ev S 79 22 [some (.ref x), l1, l2] [.ref x, .int s0] h) ∧
  (∀ (l0 l1 l2 : Option Value) (s0 : Nat) (s1 : Int32) (h : sx_H), sx_Ev S 79 22 [l0, l1, l2] [.ref s0, .int s1] h = (sx_fld h s0 6 0).bind fun v => sx_Ev S 79 25 [l0, l1, l2] [v, .int s1] h) ∧
  (∀ (l0 l1 l2 : Option Value) (s0 : Nat) (s1 : Int32) (h : sx_H), sx_klass h s0 = some 2 → sx_Ev S 79 25 [l0, l1, l2] [.ref s0, .int s1] h = sx_back S 79 25 [l0, l1, l2] [.int s1] (sx_Cl S 53 [.ref s0] h)) ∧
  (∀ (ls : sx_L) (st : List Value) (v : Value) (h : sx_H), sx_back S 79 25 ls st (some (.inl (some v), h)) = sx_Ev S 79 28 ls (v :: st) h) ∧
  (∀ (ls : sx_L) (st : List Value) (e : Nat) (h : sx_H), sx_back S 79 25 ls st (some (.inr e, h)) = some (.inr e, h)) ∧
  (∀ (l0 l1 l2 : Option Value) (s0 : Int32) (s1 : Int32) (h : sx_H), sx_Ev S 79 28 [l0, l1, l2] [.int s0, .int s1] h = if s0 < s1 then sx_Ev S 79 31 [l0, l1, l2] [] h else sx_Ev S 79 42 [l0, l1, l2] [] h) ∧
  (∀ (l0 l1 l2 : Option Value) (h : sx_H), sx_Ev S 79 31 [l0, l1, l2] [] h = some (.inr 3, sx_push h none 6)) ∧
  (∀ (l0 l1 l2 : Option Value) (h : sx_H), sx_Ev S 79 42 [l0, l1, l2] [] h = some (.inl none, h)) := ⟨fun _ _ _ _ => sx_e_nx rfl rfl,
  fun _ _ _ _ _ => sx_e_nx rfl rfl,
  fun _ _ _ _ _ _ => sx_e_nx rfl rfl,
  fun _ _ _ _ _ _ _ => sx_e_ca rfl rfl,
  fun _ _ _ => rfl,
  fun _ _ _ _ => rfl,
  fun _ _ _ _ => sx_e_nx rfl rfl,
  fun _ _ _ _ _ => sx_e_ca rfl rfl,
  fun _ _ _ => rfl,
  fun _ _ _ _ => rfl,
  fun _ _ _ _ => sx_e_nx rfl rfl,
  fun _ _ _ _ _ => sx_e_nx rfl rfl,
  fun _ _ _ _ _ _ hv => sx_e_virt rfl rfl ⟨Nat.le_of_ble_eq_true rfl, Nat.le_of_ble_eq_true rfl, rfl⟩ rfl rfl rfl hv,
  fun _ _ _ _ => rfl,
  fun _ _ _ _ => rfl,
  fun _ _ _ _ _ => sx_e_bi rfl (by decide +kernel) rfl,
  fun _ _ _ _ _ _ => sx_e_igt rfl (by decide) rfl,
  fun _ _ _ _ => sx_e_nx rfl rfl,
  fun _ _ _ _ _ => sx_e_nx rfl rfl,
  fun _ _ _ _ _ _ => sx_e_getf rfl rfl (by decide) rfl,
  fun _ _ _ _ _ _ hv => sx_e_virt rfl rfl ⟨Nat.le_of_ble_eq_true rfl, Nat.le_of_ble_eq_true rfl, rfl⟩ rfl rfl rfl hv,
  fun _ _ _ _ => rfl,
  fun _ _ _ _ => rfl,
  fun _ _ _ _ _ _ => sx_e_ile rfl (by decide) rfl,
  fun _ _ _ _ => sx_e_dn rfl rfl,
  fun _ _ _ _ => sx_e_dn rfl rfl⟩
/-- 80: X10_ways (II)I -/
theorem c80_q (S : List Int32) : ∀ (a0 : Nat) (a1 : Int32) (a2 : Int32) (h : sx_H), sx_Cl S 80 [.ref a0, .int a1, .int a2] h = sx_Ev S 80 0 [some (.ref a0), some (.int a1), some (.int a2), none] [] h := fun _ _ _ _ => rfl
theorem q80 (S : List Int32) : (∀ (l1 l2 l3 : Option Value) (x : Nat) (h : sx_H), sx_Ev S 80 0 [some (.ref x), l1, l2, l3] [] h = sx_Ev S 80 1 [some (.ref x), l1, l2, l3] [.ref x] h) ∧
  (∀ (l0 l2 l3 : Option Value) (s0 : Nat) (x : Int32) (h : sx_H), sx_Ev S 80 1 [l0, some (.int x), l2, l3] [.ref s0] h = sx_Ev S 80 2 [l0, some (.int x), l2, l3] [.int x, .ref s0] h) ∧
  (∀ (l0 l1 l2 l3 : Option Value) (s0 : Int32) (s1 : Nat) (h : sx_H), sx_klass h s1 = some 6 → sx_Ev S 80 2 [l0, l1, l2, l3] [.int s0, .ref s1] h = sx_back S 80 2 [l0, l1, l2, l3] [] (sx_Cl S 70 [.ref s1, .int s0] h)) ∧
  (∀ (ls : sx_L) (st : List Value) (v : Value) (h : sx_H), sx_back S 80 2 ls st (some (.inl (some v), h)) = sx_Ev S 80 5 ls (v :: st) h) ∧
  (∀ (ls : sx_L) (st : List Value) (e : Nat) (h : sx_H), sx_back S 80 2 ls st (some (.inr e, h)) = some (.inr e, h)) ∧
  (∀ (l0 l1 l2 l3 : Option Value) (s0 : Nat) (h : sx_H), sx_Ev S 80 5 [l0, l1, l2, l3] [.ref s0] h = sx_Ev S 80 6 [l0, l1, l2, some (.ref s0)] [] h) ∧
  (∀ (l1 l2 l3 : Option Value) (x : Nat) (h : sx_H), sx_Ev S 80 6 [some (.ref x), l1, l2, l3] [] h = sx_Ev S 80 7 [some (.ref x), l1, l2, l3] [.ref x] h) ∧
  (∀ (l0 l1 l2 : Option Value) (s0 : Nat) (x : Nat) (h : sx_H), sx_Ev S 80 7 [l0, l1, l2, some (.ref x)] [.ref s0] h = sx_Ev S 80 8 [l0, l1, l2, some (.ref x)] [.ref x, .ref s0] h) ∧
  (∀ (l0 l1 l3 : Option Value) (s0 : Nat) (s1 : Nat) (x : Int32) (h : sx_H), sx_Ev S 80 8 [l0, l1, some (.int x), l3] [.ref s0, .ref s1] h = sx_Ev S 80 9 [l0, l1, some (.int x), l3] [.int x, .ref s0, .ref s1] h) ∧
  (∀ (l0 l1 l2 l3 : Option Value) (s0 : Int32) (s1 : Nat) (s2 : Nat) (h : sx_H), sx_klass h s2 = some 6 → sx_Ev S 80 9 [l0, l1, l2, l3] [.int s0, .ref s1, .ref s2] h = sx_back S 80 9 [l0, l1, l2, l3] [] (sx_Cl S 79 [.ref s2, .ref s1, .int s0] h)) ∧
  (∀ (ls : sx_L) (st : List Value) (h : sx_H), sx_back S 80 9 ls st (some (.inl none, h)) = sx_Ev S 80 12 ls st h) ∧
  (∀ (ls : sx_L) (st : List Value) (e : Nat) (h : sx_H), sx_back S 80 9 ls st (some (.inr e, h)) = some (.inr e, h)) ∧
  (∀ (l1 l2 l3 : Option Value) (x : Nat) (h : sx_H), sx_Ev S 80 12 [some (.ref x), l1, l2, l3] [] h = sx_Ev S 80 13 [some (.ref x), l1, l2, l3] [.ref x] h) ∧
  (∀ (l0 l1 l2 l3 : Option Value) (s0 : Nat) (h : sx_H), sx_Ev S 80 13 [l0, l1, l2, l3] [.ref s0] h = (sx_fld h s0 6 5).bind fun v => sx_Ev S 80 16 [l0, l1, l2, l3] [v] h) ∧
  (∀ (l0 l1 l2 : Option Value) (s0 : Nat) (x : Nat) (h : sx_H), sx_Ev S 80 16 [l0, l1, l2, some (.ref x)] [.ref s0] h = sx_Ev S 80 17 [l0, l1, l2, some (.ref x)] [.ref x, .ref s0] h) ∧
  (∀ (l0 l1 l3 : Option Value) (s0 : Nat) (s1 : Nat) (x : Int32) (h : sx_H), sx_Ev S 80 17 [l0, l1, some (.int x), l3] [.ref s0, .ref s1] h = sx_Ev S 80 18 [l0, l1, some (.int x), l3] [.int x, .ref s0, .ref s1] h) ∧
  (∀ (l0 l1 l2 l3 : Option Value) (s0 : Int32) (s1 : Nat) (s2 : Nat) (h : sx_H), sx_Ev S 80 18 [l0, l1, l2, l3] [.int s0, .ref s1, .ref s2] h = sx_Ev S 80 19 [l0, l1, l2, l3] [.int (sz (0)), .int s0, .ref s1, .ref s2] h) ∧
  (∀ (l0 l1 l2 l3 : Option Value) (s0 : Int32) (s1 : Int32) (s2 : Nat) (s3 : Nat) (h : sx_H), sx_klass h s3 = some 1 → sx_Ev S 80 19 [l0, l1, l2, l3] [.int s0, .int s1, .ref s2, .ref s3] h = sx_back S 80 19 [l0, l1, l2, l3] [] (sx_Cl S 51 [.ref s3, .ref s2, .int s1, .int s0] h)) ∧
  (∀ (ls : sx_L) (st : List Value) (v : Value) (h : sx_H), sx_back S 80 19 ls st (some (.inl (some v), h)) = sx_Ev S 80 22 ls (v :: st) h) ∧
  (∀ (ls : sx_L) (st : List Value) (e : Nat) (h : sx_H), sx_back S 80 19 ls st (some (.inr e, h)) = some (.inr e, h)) ∧
  (∀ (l0 l1 l2 l3 : Option Value) (s0 : Int32) (h : sx_H), sx_Ev S 80 22 [l0, l1, l2, l3] [.int s0] h = some (.inl (some (.int s0)), h)) := ⟨fun _ _ _ _ _ => sx_e_nx rfl rfl,
  fun _ _ _ _ _ _ => sx_e_nx rfl rfl,
  fun _ _ _ _ _ _ _ hv => sx_e_virt rfl rfl ⟨Nat.le_of_ble_eq_true rfl, Nat.le_of_ble_eq_true rfl, rfl⟩ rfl rfl rfl hv,
  fun _ _ _ _ => rfl,
  fun _ _ _ _ => rfl,
  fun _ _ _ _ _ _ => sx_e_nx rfl rfl,
  fun _ _ _ _ _ => sx_e_nx rfl rfl,
  fun _ _ _ _ _ _ => sx_e_nx rfl rfl,
  fun _ _ _ _ _ _ _ => sx_e_nx rfl rfl,
  fun _ _ _ _ _ _ _ _ hv => sx_e_virt rfl rfl ⟨Nat.le_of_ble_eq_true rfl, Nat.le_of_ble_eq_true rfl, rfl⟩ rfl rfl rfl hv,
  fun _ _ _ => rfl,
  fun _ _ _ _ => rfl,
  fun _ _ _ _ _ => sx_e_nx rfl rfl,
  fun _ _ _ _ _ _ => sx_e_getf rfl rfl (by decide) rfl,
  fun _ _ _ _ _ _ => sx_e_nx rfl rfl,
  fun _ _ _ _ _ _ _ => sx_e_nx rfl rfl,
  fun _ _ _ _ _ _ _ _ => sx_e_nx rfl rfl,
  fun _ _ _ _ _ _ _ _ _ hv => sx_e_virt rfl rfl ⟨Nat.le_of_ble_eq_true rfl, Nat.le_of_ble_eq_true rfl, rfl⟩ rfl rfl rfl hv,
  fun _ _ _ _ => rfl,
  fun _ _ _ _ => rfl,
  fun _ _ _ _ _ _ => sx_e_ret rfl rfl rfl⟩
/-- 81: X10_fill (II)I -/
theorem c81_q (S : List Int32) : ∀ (a0 : Nat) (a1 : Int32) (a2 : Int32) (h : sx_H), sx_Cl S 81 [.ref a0, .int a1, .int a2] h = sx_Ev S 81 0 [some (.ref a0), some (.int a1), some (.int a2), none, none] [] h := fun _ _ _ _ => rfl
theorem q81 (S : List Int32) : (∀ (l1 l2 l3 l4 : Option Value) (x : Nat) (h : sx_H), sx_Ev S 81 0 [some (.ref x), l1, l2, l3, l4] [] h = sx_Ev S 81 1 [some (.ref x), l1, l2, l3, l4] [.ref x] h) ∧
  (∀ (l0 l2 l3 l4 : Option Value) (s0 : Nat) (x : Int32) (h : sx_H), sx_Ev S 81 1 [l0, some (.int x), l2, l3, l4] [.ref s0] h = sx_Ev S 81 2 [l0, some (.int x), l2, l3, l4] [.int x, .ref s0] h) ∧
  (∀ (l0 l1 l2 l3 l4 : Option Value) (s0 : Int32) (s1 : Nat) (h : sx_H), sx_klass h s1 = some 6 → sx_Ev S 81 2 [l0, l1, l2, l3, l4] [.int s0, .ref s1] h = sx_back S 81 2 [l0, l1, l2, l3, l4] [] (sx_Cl S 70 [.ref s1, .int s0] h)) ∧
  (∀ (ls : sx_L) (st : List Value) (v : Value) (h : sx_H), sx_back S 81 2 ls st (some (.inl (some v), h)) = sx_Ev S 81 5 ls (v :: st) h) ∧
  (∀ (ls : sx_L) (st : List Value) (e : Nat) (h : sx_H), sx_back S 81 2 ls st (some (.inr e, h)) = some (.inr e, h)) ∧
  (∀ (l0 l1 l2 l3 l4 : Option Value) (s0 : Nat) (h : sx_H), sx_Ev S 81 5 [l0, l1, l2, l3, l4] [.ref s0] h = sx_Ev S 81 6 [l0, l1, l2, some (.ref s0), l4] [] h) ∧
  (∀ (l1 l2 l3 l4 : Option Value) (x : Nat) (h : sx_H), sx_Ev S 81 6 [some (.ref x), l1, l2, l3, l4] [] h = sx_Ev S 81 7 [some (.ref x), l1, l2, l3, l4] [.ref x] h) ∧
  (∀ (l0 l1 l2 l4 : Option Value) (s0 : Nat) (x : Nat) (h : sx_H), sx_Ev S 81 7 [l0, l1, l2, some (.ref x), l4] [.ref s0] h = sx_Ev S 81 8 [l0, l1, l2, some (.ref x), l4] [.ref x, .ref s0] h) ∧
  (∀ (l0 l1 l3 l4 : Option Value) (s0 : Nat) (s1 : Nat) (x : Int32) (h : sx_H), sx_Ev S 81 8 [l0, l1, some (.int x), l3, l4] [.ref s0, .ref s1] h = sx_Ev S 81 9 [l0, l1, some (.int x), l3, l4] [.int x, .ref s0, .ref s1] h) ∧
  (∀ (l0 l1 l2 l3 l4 : Option Value) (s0 : Int32) (s1 : Nat) (s2 : Nat) (h : sx_H), sx_klass h s2 = some 6 → sx_Ev S 81 9 [l0, l1, l2, l3, l4] [.int s0, .ref s1, .ref s2] h = sx_back S 81 9 [l0, l1, l2, l3, l4] [] (sx_Cl S 79 [.ref s2, .ref s1, .int s0] h)) ∧
  (∀ (ls : sx_L) (st : List Value) (h : sx_H), sx_back S 81 9 ls st (some (.inl none, h)) = sx_Ev S 81 12 ls st h) ∧
  (∀ (ls : sx_L) (st : List Value) (e : Nat) (h : sx_H), sx_back S 81 9 ls st (some (.inr e, h)) = some (.inr e, h)) ∧
  (∀ (l0 l1 l2 l4 : Option Value) (x : Nat) (h : sx_H), sx_Ev S 81 12 [l0, l1, l2, some (.ref x), l4] [] h = sx_Ev S 81 13 [l0, l1, l2, some (.ref x), l4] [.ref x] h) ∧
  (∀ (l0 l1 l2 l3 l4 : Option Value) (s0 : Nat) (h : sx_H), sx_Ev S 81 13 [l0, l1, l2, l3, l4] [.ref s0] h = sx_Ev S 81 14 [l0, l1, l2, l3, l4] [.int (sz (-1)), .ref s0] h) ∧
  (∀ (l0 l1 l2 l3 l4 : Option Value) (s0 : Int32) (s1 : Nat) (h : sx_H), sx_klass h s1 = some 0 → sx_Ev S 81 14 [l0, l1, l2, l3, l4] [.int s0, .ref s1] h = sx_back S 81 14 [l0, l1, l2, l3, l4] [] (sx_Cl S 31 [.ref s1, .int s0] h)) ∧
  (∀ (ls : sx_L) (st : List Value) (v : Value) (h : sx_H), sx_back S 81 14 ls st (some (.inl (some v), h)) = sx_Ev S 81 17 ls (v :: st) h) ∧
  (∀ (ls : sx_L) (st : List Value) (e : Nat) (h : sx_H), sx_back S 81 14 ls st (some (.inr e, h)) = some (.inr e, h)) ∧
  (∀ (l0 l1 l2 l3 l4 : Option Value) (s0 : Int32) (h : sx_H), sx_Ev S 81 17 [l0, l1, l2, l3, l4] [.int s0] h = sx_Ev S 81 19 [l0, l1, l2, l3, some (.int s0)] [] h) ∧
  (∀ (l1 l2 l3 l4 : Option Value) (x : Nat) (h : sx_H), sx_Ev S 81 19 [some (.ref x), l1, l2, l3, l4] [] h = sx_Ev S 81 20 [some (.ref x), l1, l2, l3, l4] [.ref x] h) ∧
  (∀ (l0 l1 l2 l3 l4 : Option Value) (s0 : Nat) (h : sx_H), sx_Ev S 81 20 [l0, l1, l2, l3, l4] [.ref s0] h = (sx_fld h s0 6 5).bind fun v => sx_Ev S 81 23 [l0, l1, l2, l3, l4] [v] h) ∧
  (∀ (l0 l1 l2 l4 : Option Value) (s0 : Nat) (x : Nat) (h : sx_H), sx_Ev S 81 23 [l0, l1, l2, some (.ref x), l4] [.ref s0] h = sx_Ev S 81 24 [l0, l1, l2, some (.ref x), l4] [.ref x, .ref s0] h) ∧
  (∀ (l0 l1 l3 l4 : Option Value) (s0 : Nat) (s1 : Nat) (x : Int32) (h : sx_H), sx_Ev S 81 24 [l0, l1, some (.int x), l3, l4] [.ref s0, .ref s1] h = sx_Ev S 81 25 [l0, l1, some (.int x), l3, l4] [.int x, .ref s0, .ref s1] h) ∧
  (∀ (l0 l1 l2 l3 l4 : Option Value) (s0 : Int32) (s1 : Nat) (s2 : Nat) (h : sx_H), sx_Ev S 81 25 [l0, l1, l2, l3, l4] [.int s0, .ref s1, .ref s2] h = sx_Ev S 81 26 [l0, l1, l2, l3, l4] [.int (sz (1)), .int s0, .ref s1, .ref s2] h) ∧
  (∀ (l0 l1 l2 l3 l4 : Option Value) (s0 : Int32) (s1 : Int32) (s2 : Nat) (s3 : Nat) (h : sx_H), sx_klass h s3 = some 1 → sx_Ev S 81 26 [l0, l1, l2, l3, l4] [.int s0, .int s1, .ref s2, .ref s3] h = sx_back S 81 26 [l0, l1, l2, l3, l4] [] (sx_Cl S 51 [.ref s3, .ref s2, .int s1, .int s0] h)) ∧
  (∀ (ls : sx_L) (st : List Value) (v : Value) (h : sx_H), sx_back S 81 26 ls st (some (.inl (some v), h)) = sx_Ev S 81 29 ls (v :: st) h) ∧
  (∀ (ls : sx_L) (st : List Value) (e : Nat) (h : sx_H), sx_back S 81 26 ls st (some (.inr e, h)) = some (.inr e, h)) ∧
  (∀ (l0 l1 l2 l3 l4 : Option Value) (s0 : Int32) (h : sx_H), sx_Ev S 81 29 [l0, l1, l2, l3, l4] [.int s0] h = sx_Ev S 81 30 [l0, l1, l2, l3, l4] [.int (sz (1)), .int s0] h) ∧
  (∀ (l0 l1 l2 l3 l4 : Option Value) (s0 : Int32) (s1 : Int32) (h : sx_H), sx_Ev S 81 30 [l0, l1, l2, l3, l4] [.int s0, .int s1] h = if s1 < s0 then sx_Ev S 81 33 [l0, l1, l2, l3, l4] [] h else sx_Ev S 81 43 [l0, l1, l2, l3, l4] [] h) ∧
  (∀ (l0 l1 l2 l3 l4 : Option Value) (h : sx_H), sx_Ev S 81 33 [l0, l1, l2, l3, l4] [] h = some (.inr 4, sx_push h none 6)) ∧
  (∀ (l0 l1 l2 l3 : Option Value) (x : Int32) (h : sx_H), sx_Ev S 81 43 [l0, l1, l2, l3, some (.int x)] [] h = sx_Ev S 81 45 [l0, l1, l2, l3, some (.int x)] [.int x] h) ∧
  (∀ (l0 l1 l2 l3 l4 : Option Value) (s0 : Int32) (h : sx_H), sx_Ev S 81 45 [l0, l1, l2, l3, l4] [.int s0] h = some (.inl (some (.int s0)), h)) := ⟨fun _ _ _ _ _ _ => sx_e_nx rfl rfl,
  fun _ _ _ _ _ _ _ => sx_e_nx rfl rfl,
  fun _ _ _ _ _ _ _ _ hv => sx_e_virt rfl rfl ⟨Nat.le_of_ble_eq_true rfl, Nat.le_of_ble_eq_true rfl, rfl⟩ rfl rfl rfl hv,
  fun _ _ _ _ => rfl,
  fun _ _ _ _ => rfl,
  fun _ _ _ _ _ _ _ => sx_e_nx rfl rfl,
  fun _ _ _ _ _ _ => sx_e_nx rfl rfl,
  fun _ _ _ _ _ _ _ => sx_e_nx rfl rfl,
  fun _ _ _ _ _ _ _ _ => sx_e_nx rfl rfl,
  fun _ _ _ _ _ _ _ _ _ hv => sx_e_virt rfl rfl ⟨Nat.le_of_ble_eq_true rfl, Nat.le_of_ble_eq_true rfl, rfl⟩ rfl rfl rfl hv,
  fun _ _ _ => rfl,
  fun _ _ _ _ => rfl,
  fun _ _ _ _ _ _ => sx_e_nx rfl rfl,
  fun _ _ _ _ _ _ _ => sx_e_nx rfl rfl,
  fun _ _ _ _ _ _ _ _ hv => sx_e_virt rfl rfl ⟨Nat.le_of_ble_eq_true rfl, Nat.le_of_ble_eq_true rfl, rfl⟩ rfl rfl rfl hv,
  fun _ _ _ _ => rfl,
  fun _ _ _ _ => rfl,
  fun _ _ _ _ _ _ _ => sx_e_nx rfl rfl,
  fun _ _ _ _ _ _ => sx_e_nx rfl rfl,
  fun _ _ _ _ _ _ _ => sx_e_getf rfl rfl (by decide) rfl,
  fun _ _ _ _ _ _ _ => sx_e_nx rfl rfl,
  fun _ _ _ _ _ _ _ _ => sx_e_nx rfl rfl,
  fun _ _ _ _ _ _ _ _ _ => sx_e_nx rfl rfl,
  fun _ _ _ _ _ _ _ _ _ _ hv => sx_e_virt rfl rfl ⟨Nat.le_of_ble_eq_true rfl, Nat.le_of_ble_eq_true rfl, rfl⟩ rfl rfl rfl hv,
  fun _ _ _ _ => rfl,
  fun _ _ _ _ => rfl,
  fun _ _ _ _ _ _ _ => sx_e_nx rfl rfl,
  fun _ _ _ _ _ _ _ _ => sx_e_ige rfl (by decide) rfl,
  fun _ _ _ _ _ _ => sx_e_dn rfl rfl,
  fun _ _ _ _ _ _ => sx_e_nx rfl rfl,
  fun _ _ _ _ _ _ _ => sx_e_ret rfl rfl rfl⟩
/-- 82: X10_requireFull (LBeadslant$Cloth;)V -/
theorem c82_q (S : List Int32) : ∀ (a0 : Nat) (h : sx_H), sx_Cl S 82 [.ref a0] h = sx_Ev S 82 0 [some (.ref a0)] [] h := fun _ _ => rfl
theorem q82 (S : List Int32) : (∀ (x : Nat) (h : sx_H), sx_Ev S 82 0 [some (.ref x)] [] h = sx_Ev S 82 1 [some (.ref x)] [.ref x] h) ∧
  (∀ (l0 : Option Value) (s0 : Nat) (h : sx_H), sx_Ev S 82 1 [l0] [.ref s0] h = sx_Ev S 82 2 [l0] [.int (sz (-1)), .ref s0] h) ∧
  (∀ (l0 : Option Value) (s0 : Int32) (s1 : Nat) (h : sx_H), sx_klass h s1 = some 0 → sx_Ev S 82 2 [l0] [.int s0, .ref s1] h = sx_back S 82 2 [l0] [] (sx_Cl S 31 [.ref s1, .int s0] h)) ∧
  (∀ (ls : sx_L) (st : List Value) (v : Value) (h : sx_H), sx_back S 82 2 ls st (some (.inl (some v), h)) = sx_Ev S 82 5 ls (v :: st) h) ∧
  (∀ (ls : sx_L) (st : List Value) (e : Nat) (h : sx_H), sx_back S 82 2 ls st (some (.inr e, h)) = some (.inr e, h)) ∧
  (∀ (l0 : Option Value) (s0 : Int32) (h : sx_H), sx_Ev S 82 5 [l0] [.int s0] h = if 0 < s0 then sx_Ev S 82 8 [l0] [] h else sx_Ev S 82 19 [l0] [] h) ∧
  (∀ (l0 : Option Value) (h : sx_H), sx_Ev S 82 8 [l0] [] h = some (.inr 3, sx_push h none 6)) ∧
  (∀ (l0 : Option Value) (h : sx_H), sx_Ev S 82 19 [l0] [] h = some (.inl none, h)) := ⟨fun _ _ => sx_e_nx rfl rfl,
  fun _ _ _ => sx_e_nx rfl rfl,
  fun _ _ _ _ hv => sx_e_virt rfl rfl ⟨Nat.le_of_ble_eq_true rfl, Nat.le_of_ble_eq_true rfl, rfl⟩ rfl rfl rfl hv,
  fun _ _ _ _ => rfl,
  fun _ _ _ _ => rfl,
  fun _ _ _ => sx_e_le rfl (by decide) rfl,
  fun _ _ => sx_e_dn rfl rfl,
  fun _ _ => sx_e_dn rfl rfl⟩
/-- 83: X10_repeat (I)I -/
theorem c83_q (S : List Int32) : ∀ (a0 : Nat) (a1 : Int32) (h : sx_H), sx_Cl S 83 [.ref a0, .int a1] h = sx_Ev S 83 0 [some (.ref a0), some (.int a1), none] [] h := fun _ _ _ => rfl
theorem q83 (S : List Int32) : (∀ (l1 l2 : Option Value) (x : Nat) (h : sx_H), sx_Ev S 83 0 [some (.ref x), l1, l2] [] h = sx_Ev S 83 1 [some (.ref x), l1, l2] [.ref x] h) ∧
  (∀ (l0 l2 : Option Value) (s0 : Nat) (x : Int32) (h : sx_H), sx_Ev S 83 1 [l0, some (.int x), l2] [.ref s0] h = sx_Ev S 83 2 [l0, some (.int x), l2] [.int x, .ref s0] h) ∧
  (∀ (l0 l1 l2 : Option Value) (s0 : Int32) (s1 : Nat) (h : sx_H), sx_klass h s1 = some 6 → sx_Ev S 83 2 [l0, l1, l2] [.int s0, .ref s1] h = sx_back S 83 2 [l0, l1, l2] [] (sx_Cl S 70 [.ref s1, .int s0] h)) ∧
  (∀ (ls : sx_L) (st : List Value) (v : Value) (h : sx_H), sx_back S 83 2 ls st (some (.inl (some v), h)) = sx_Ev S 83 5 ls (v :: st) h) ∧
  (∀ (ls : sx_L) (st : List Value) (e : Nat) (h : sx_H), sx_back S 83 2 ls st (some (.inr e, h)) = some (.inr e, h)) ∧
  (∀ (l0 l1 l2 : Option Value) (s0 : Nat) (h : sx_H), sx_Ev S 83 5 [l0, l1, l2] [.ref s0] h = sx_Ev S 83 6 [l0, l1, some (.ref s0)] [] h) ∧
  (∀ (l0 l1 : Option Value) (x : Nat) (h : sx_H), sx_Ev S 83 6 [l0, l1, some (.ref x)] [] h = sx_Ev S 83 7 [l0, l1, some (.ref x)] [.ref x] h) ∧
  (∀ (l0 l1 l2 : Option Value) (s0 : Nat) (h : sx_H), sx_Ev S 83 7 [l0, l1, l2] [.ref s0] h = sx_back S 83 7 [l0, l1, l2] [] (sx_Cl S 82 [.ref s0] h)) ∧
  (∀ (ls : sx_L) (st : List Value) (h : sx_H), sx_back S 83 7 ls st (some (.inl none, h)) = sx_Ev S 83 10 ls st h) ∧
  (∀ (ls : sx_L) (st : List Value) (e : Nat) (h : sx_H), sx_back S 83 7 ls st (some (.inr e, h)) = some (.inr e, h)) ∧
  (∀ (l0 l1 : Option Value) (x : Nat) (h : sx_H), sx_Ev S 83 10 [l0, l1, some (.ref x)] [] h = sx_Ev S 83 11 [l0, l1, some (.ref x)] [.ref x] h) ∧
  (∀ (l0 l1 l2 : Option Value) (s0 : Nat) (h : sx_H), sx_Ev S 83 11 [l0, l1, l2] [.ref s0] h = sx_back S 83 11 [l0, l1, l2] [] (sx_Cl S 2 [.ref s0] h)) ∧
  (∀ (ls : sx_L) (st : List Value) (v : Value) (h : sx_H), sx_back S 83 11 ls st (some (.inl (some v), h)) = sx_Ev S 83 14 ls (v :: st) h) ∧
  (∀ (ls : sx_L) (st : List Value) (e : Nat) (h : sx_H), sx_back S 83 11 ls st (some (.inr e, h)) = some (.inr e, h)) ∧
  (∀ (l0 l1 l2 : Option Value) (s0 : Int32) (h : sx_H), sx_Ev S 83 14 [l0, l1, l2] [.int s0] h = some (.inl (some (.int s0)), h)) := ⟨fun _ _ _ _ => sx_e_nx rfl rfl,
  fun _ _ _ _ _ => sx_e_nx rfl rfl,
  fun _ _ _ _ _ _ hv => sx_e_virt rfl rfl ⟨Nat.le_of_ble_eq_true rfl, Nat.le_of_ble_eq_true rfl, rfl⟩ rfl rfl rfl hv,
  fun _ _ _ _ => rfl,
  fun _ _ _ _ => rfl,
  fun _ _ _ _ _ => sx_e_nx rfl rfl,
  fun _ _ _ _ => sx_e_nx rfl rfl,
  fun _ _ _ _ _ => sx_e_ca rfl rfl,
  fun _ _ _ => rfl,
  fun _ _ _ _ => rfl,
  fun _ _ _ _ => sx_e_nx rfl rfl,
  fun _ _ _ _ _ => sx_e_ca rfl rfl,
  fun _ _ _ _ => rfl,
  fun _ _ _ _ => rfl,
  fun _ _ _ _ _ => sx_e_ret rfl rfl rfl⟩
/-- 84: X10_isMirrored (I)Z -/
theorem c84_q (S : List Int32) : ∀ (a0 : Nat) (a1 : Int32) (h : sx_H), sx_Cl S 84 [.ref a0, .int a1] h = sx_Ev S 84 0 [some (.ref a0), some (.int a1), none] [] h := fun _ _ _ => rfl
theorem q84 (S : List Int32) : (∀ (l1 l2 : Option Value) (x : Nat) (h : sx_H), sx_Ev S 84 0 [some (.ref x), l1, l2] [] h = sx_Ev S 84 1 [some (.ref x), l1, l2] [.ref x] h) ∧
  (∀ (l0 l2 : Option Value) (s0 : Nat) (x : Int32) (h : sx_H), sx_Ev S 84 1 [l0, some (.int x), l2] [.ref s0] h = sx_Ev S 84 2 [l0, some (.int x), l2] [.int x, .ref s0] h) ∧
  (∀ (l0 l1 l2 : Option Value) (s0 : Int32) (s1 : Nat) (h : sx_H), sx_klass h s1 = some 6 → sx_Ev S 84 2 [l0, l1, l2] [.int s0, .ref s1] h = sx_back S 84 2 [l0, l1, l2] [] (sx_Cl S 70 [.ref s1, .int s0] h)) ∧
  (∀ (ls : sx_L) (st : List Value) (v : Value) (h : sx_H), sx_back S 84 2 ls st (some (.inl (some v), h)) = sx_Ev S 84 5 ls (v :: st) h) ∧
  (∀ (ls : sx_L) (st : List Value) (e : Nat) (h : sx_H), sx_back S 84 2 ls st (some (.inr e, h)) = some (.inr e, h)) ∧
  (∀ (l0 l1 l2 : Option Value) (s0 : Nat) (h : sx_H), sx_Ev S 84 5 [l0, l1, l2] [.ref s0] h = sx_Ev S 84 6 [l0, l1, some (.ref s0)] [] h) ∧
  (∀ (l0 l1 : Option Value) (x : Nat) (h : sx_H), sx_Ev S 84 6 [l0, l1, some (.ref x)] [] h = sx_Ev S 84 7 [l0, l1, some (.ref x)] [.ref x] h) ∧
  (∀ (l0 l1 l2 : Option Value) (s0 : Nat) (h : sx_H), sx_Ev S 84 7 [l0, l1, l2] [.ref s0] h = sx_back S 84 7 [l0, l1, l2] [] (sx_Cl S 82 [.ref s0] h)) ∧
  (∀ (ls : sx_L) (st : List Value) (h : sx_H), sx_back S 84 7 ls st (some (.inl none, h)) = sx_Ev S 84 10 ls st h) ∧
  (∀ (ls : sx_L) (st : List Value) (e : Nat) (h : sx_H), sx_back S 84 7 ls st (some (.inr e, h)) = some (.inr e, h)) ∧
  (∀ (l0 l1 : Option Value) (x : Nat) (h : sx_H), sx_Ev S 84 10 [l0, l1, some (.ref x)] [] h = sx_Ev S 84 11 [l0, l1, some (.ref x)] [.ref x] h) ∧
  (∀ (l0 l1 l2 : Option Value) (s0 : Nat) (h : sx_H), sx_Ev S 84 11 [l0, l1, l2] [.ref s0] h = sx_back S 84 11 [l0, l1, l2] [] (sx_Cl S 3 [.ref s0] h)) ∧
  (∀ (ls : sx_L) (st : List Value) (v : Value) (h : sx_H), sx_back S 84 11 ls st (some (.inl (some v), h)) = sx_Ev S 84 14 ls (v :: st) h) ∧
  (∀ (ls : sx_L) (st : List Value) (e : Nat) (h : sx_H), sx_back S 84 11 ls st (some (.inr e, h)) = some (.inr e, h)) ∧
  (∀ (l0 l1 l2 : Option Value) (s0 : Int32) (h : sx_H), narrow .boolean (.int s0) = .int s0 → sx_Ev S 84 14 [l0, l1, l2] [.int s0] h = some (.inl (some (.int s0)), h)) := ⟨fun _ _ _ _ => sx_e_nx rfl rfl,
  fun _ _ _ _ _ => sx_e_nx rfl rfl,
  fun _ _ _ _ _ _ hv => sx_e_virt rfl rfl ⟨Nat.le_of_ble_eq_true rfl, Nat.le_of_ble_eq_true rfl, rfl⟩ rfl rfl rfl hv,
  fun _ _ _ _ => rfl,
  fun _ _ _ _ => rfl,
  fun _ _ _ _ _ => sx_e_nx rfl rfl,
  fun _ _ _ _ => sx_e_nx rfl rfl,
  fun _ _ _ _ _ => sx_e_ca rfl rfl,
  fun _ _ _ => rfl,
  fun _ _ _ _ => rfl,
  fun _ _ _ _ => sx_e_nx rfl rfl,
  fun _ _ _ _ _ => sx_e_ca rfl rfl,
  fun _ _ _ _ => rfl,
  fun _ _ _ _ => rfl,
  fun _ _ _ _ _ hv => sx_e_ret rfl rfl hv⟩
/-- 85: X10_requireRow (LBeadslant$Cloth;I)V -/
theorem c85_q (S : List Int32) : ∀ (a0 : Nat) (a1 : Int32) (h : sx_H), sx_Cl S 85 [.ref a0, .int a1] h = sx_Ev S 85 0 [some (.ref a0), some (.int a1)] [] h := fun _ _ _ => rfl
theorem q85 (S : List Int32) : (∀ (l0 : Option Value) (x : Int32) (h : sx_H), sx_Ev S 85 0 [l0, some (.int x)] [] h = sx_Ev S 85 1 [l0, some (.int x)] [.int x] h) ∧
  (∀ (l0 l1 : Option Value) (s0 : Int32) (h : sx_H), sx_Ev S 85 1 [l0, l1] [.int s0] h = if s0 < 0 then sx_Ev S 85 12 [l0, l1] [] h else sx_Ev S 85 4 [l0, l1] [] h) ∧
  (∀ (l0 : Option Value) (x : Int32) (h : sx_H), sx_Ev S 85 4 [l0, some (.int x)] [] h = sx_Ev S 85 5 [l0, some (.int x)] [.int x] h) ∧
  (∀ (l1 : Option Value) (s0 : Int32) (x : Nat) (h : sx_H), sx_Ev S 85 5 [some (.ref x), l1] [.int s0] h = sx_Ev S 85 6 [some (.ref x), l1] [.ref x, .int s0] h) ∧
  (∀ (l0 l1 : Option Value) (s0 : Nat) (s1 : Int32) (h : sx_H), sx_Ev S 85 6 [l0, l1] [.ref s0, .int s1] h = (sx_fld h s0 0 3).bind fun v => sx_Ev S 85 9 [l0, l1] [v, .int s1] h) ∧
  (∀ (l0 l1 : Option Value) (s0 : Int32) (s1 : Int32) (h : sx_H), sx_Ev S 85 9 [l0, l1] [.int s0, .int s1] h = if s1 < s0 then sx_Ev S 85 23 [l0, l1] [] h else sx_Ev S 85 12 [l0, l1] [] h) ∧
  (∀ (l0 l1 : Option Value) (h : sx_H), sx_Ev S 85 12 [l0, l1] [] h = some (.inr 2, sx_push h none 6)) ∧
  (∀ (l0 l1 : Option Value) (h : sx_H), sx_Ev S 85 23 [l0, l1] [] h = some (.inl none, h)) := ⟨fun _ _ _ => sx_e_nx rfl rfl,
  fun _ _ _ _ => sx_e_lt rfl (by decide) rfl,
  fun _ _ _ => sx_e_nx rfl rfl,
  fun _ _ _ _ => sx_e_nx rfl rfl,
  fun _ _ _ _ _ => sx_e_getf rfl rfl (by decide) rfl,
  fun _ _ _ _ _ => sx_e_ilt rfl (by decide) rfl,
  fun _ _ _ => sx_e_dn rfl rfl,
  fun _ _ _ => sx_e_dn rfl rfl⟩
/-- 86: X10_rowWidth (II)I -/
theorem c86_q (S : List Int32) : ∀ (a0 : Nat) (a1 : Int32) (a2 : Int32) (h : sx_H), sx_Cl S 86 [.ref a0, .int a1, .int a2] h = sx_Ev S 86 0 [some (.ref a0), some (.int a1), some (.int a2), none] [] h := fun _ _ _ _ => rfl
theorem q86 (S : List Int32) : (∀ (l1 l2 l3 : Option Value) (x : Nat) (h : sx_H), sx_Ev S 86 0 [some (.ref x), l1, l2, l3] [] h = sx_Ev S 86 1 [some (.ref x), l1, l2, l3] [.ref x] h) ∧
  (∀ (l0 l2 l3 : Option Value) (s0 : Nat) (x : Int32) (h : sx_H), sx_Ev S 86 1 [l0, some (.int x), l2, l3] [.ref s0] h = sx_Ev S 86 2 [l0, some (.int x), l2, l3] [.int x, .ref s0] h) ∧
  (∀ (l0 l1 l2 l3 : Option Value) (s0 : Int32) (s1 : Nat) (h : sx_H), sx_klass h s1 = some 6 → sx_Ev S 86 2 [l0, l1, l2, l3] [.int s0, .ref s1] h = sx_back S 86 2 [l0, l1, l2, l3] [] (sx_Cl S 70 [.ref s1, .int s0] h)) ∧
  (∀ (ls : sx_L) (st : List Value) (v : Value) (h : sx_H), sx_back S 86 2 ls st (some (.inl (some v), h)) = sx_Ev S 86 5 ls (v :: st) h) ∧
  (∀ (ls : sx_L) (st : List Value) (e : Nat) (h : sx_H), sx_back S 86 2 ls st (some (.inr e, h)) = some (.inr e, h)) ∧
  (∀ (l0 l1 l2 l3 : Option Value) (s0 : Nat) (h : sx_H), sx_Ev S 86 5 [l0, l1, l2, l3] [.ref s0] h = sx_Ev S 86 6 [l0, l1, l2, some (.ref s0)] [] h) ∧
  (∀ (l0 l1 l2 : Option Value) (x : Nat) (h : sx_H), sx_Ev S 86 6 [l0, l1, l2, some (.ref x)] [] h = sx_Ev S 86 7 [l0, l1, l2, some (.ref x)] [.ref x] h) ∧
  (∀ (l0 l1 l3 : Option Value) (s0 : Nat) (x : Int32) (h : sx_H), sx_Ev S 86 7 [l0, l1, some (.int x), l3] [.ref s0] h = sx_Ev S 86 8 [l0, l1, some (.int x), l3] [.int x, .ref s0] h) ∧
  (∀ (l0 l1 l2 l3 : Option Value) (s0 : Int32) (s1 : Nat) (h : sx_H), sx_Ev S 86 8 [l0, l1, l2, l3] [.int s0, .ref s1] h = sx_back S 86 8 [l0, l1, l2, l3] [] (sx_Cl S 85 [.ref s1, .int s0] h)) ∧
  (∀ (ls : sx_L) (st : List Value) (h : sx_H), sx_back S 86 8 ls st (some (.inl none, h)) = sx_Ev S 86 11 ls st h) ∧
  (∀ (ls : sx_L) (st : List Value) (e : Nat) (h : sx_H), sx_back S 86 8 ls st (some (.inr e, h)) = some (.inr e, h)) ∧
  (∀ (l0 l1 l2 : Option Value) (x : Nat) (h : sx_H), sx_Ev S 86 11 [l0, l1, l2, some (.ref x)] [] h = sx_Ev S 86 12 [l0, l1, l2, some (.ref x)] [.ref x] h) ∧
  (∀ (l0 l1 l3 : Option Value) (s0 : Nat) (x : Int32) (h : sx_H), sx_Ev S 86 12 [l0, l1, some (.int x), l3] [.ref s0] h = sx_Ev S 86 13 [l0, l1, some (.int x), l3] [.int x, .ref s0] h) ∧
  (∀ (l0 l1 l2 l3 : Option Value) (s0 : Int32) (s1 : Nat) (h : sx_H), sx_klass h s1 = some 0 → sx_Ev S 86 13 [l0, l1, l2, l3] [.int s0, .ref s1] h = sx_back S 86 13 [l0, l1, l2, l3] [] (sx_Cl S 33 [.ref s1, .int s0] h)) ∧
  (∀ (ls : sx_L) (st : List Value) (v : Value) (h : sx_H), sx_back S 86 13 ls st (some (.inl (some v), h)) = sx_Ev S 86 16 ls (v :: st) h) ∧
  (∀ (ls : sx_L) (st : List Value) (e : Nat) (h : sx_H), sx_back S 86 13 ls st (some (.inr e, h)) = some (.inr e, h)) ∧
  (∀ (l0 l1 l2 l3 : Option Value) (s0 : Int32) (h : sx_H), sx_Ev S 86 16 [l0, l1, l2, l3] [.int s0] h = some (.inl (some (.int s0)), h)) := ⟨fun _ _ _ _ _ => sx_e_nx rfl rfl,
  fun _ _ _ _ _ _ => sx_e_nx rfl rfl,
  fun _ _ _ _ _ _ _ hv => sx_e_virt rfl rfl ⟨Nat.le_of_ble_eq_true rfl, Nat.le_of_ble_eq_true rfl, rfl⟩ rfl rfl rfl hv,
  fun _ _ _ _ => rfl,
  fun _ _ _ _ => rfl,
  fun _ _ _ _ _ _ => sx_e_nx rfl rfl,
  fun _ _ _ _ _ => sx_e_nx rfl rfl,
  fun _ _ _ _ _ _ => sx_e_nx rfl rfl,
  fun _ _ _ _ _ _ _ => sx_e_ca rfl rfl,
  fun _ _ _ => rfl,
  fun _ _ _ _ => rfl,
  fun _ _ _ _ _ => sx_e_nx rfl rfl,
  fun _ _ _ _ _ _ => sx_e_nx rfl rfl,
  fun _ _ _ _ _ _ _ hv => sx_e_virt rfl rfl ⟨Nat.le_of_ble_eq_true rfl, Nat.le_of_ble_eq_true rfl, rfl⟩ rfl rfl rfl hv,
  fun _ _ _ _ => rfl,
  fun _ _ _ _ => rfl,
  fun _ _ _ _ _ _ => sx_e_ret rfl rfl rfl⟩
/-- 87: X10_runs (II)I -/
theorem c87_q (S : List Int32) : ∀ (a0 : Nat) (a1 : Int32) (a2 : Int32) (h : sx_H), sx_Cl S 87 [.ref a0, .int a1, .int a2] h = sx_Ev S 87 0 [some (.ref a0), some (.int a1), some (.int a2), none] [] h := fun _ _ _ _ => rfl
theorem q87 (S : List Int32) : (∀ (l1 l2 l3 : Option Value) (x : Nat) (h : sx_H), sx_Ev S 87 0 [some (.ref x), l1, l2, l3] [] h = sx_Ev S 87 1 [some (.ref x), l1, l2, l3] [.ref x] h) ∧
  (∀ (l0 l2 l3 : Option Value) (s0 : Nat) (x : Int32) (h : sx_H), sx_Ev S 87 1 [l0, some (.int x), l2, l3] [.ref s0] h = sx_Ev S 87 2 [l0, some (.int x), l2, l3] [.int x, .ref s0] h) ∧
  (∀ (l0 l1 l2 l3 : Option Value) (s0 : Int32) (s1 : Nat) (h : sx_H), sx_klass h s1 = some 6 → sx_Ev S 87 2 [l0, l1, l2, l3] [.int s0, .ref s1] h = sx_back S 87 2 [l0, l1, l2, l3] [] (sx_Cl S 70 [.ref s1, .int s0] h)) ∧
  (∀ (ls : sx_L) (st : List Value) (v : Value) (h : sx_H), sx_back S 87 2 ls st (some (.inl (some v), h)) = sx_Ev S 87 5 ls (v :: st) h) ∧
  (∀ (ls : sx_L) (st : List Value) (e : Nat) (h : sx_H), sx_back S 87 2 ls st (some (.inr e, h)) = some (.inr e, h)) ∧
  (∀ (l0 l1 l2 l3 : Option Value) (s0 : Nat) (h : sx_H), sx_Ev S 87 5 [l0, l1, l2, l3] [.ref s0] h = sx_Ev S 87 6 [l0, l1, l2, some (.ref s0)] [] h) ∧
  (∀ (l0 l1 l2 : Option Value) (x : Nat) (h : sx_H), sx_Ev S 87 6 [l0, l1, l2, some (.ref x)] [] h = sx_Ev S 87 7 [l0, l1, l2, some (.ref x)] [.ref x] h) ∧
  (∀ (l0 l1 l3 : Option Value) (s0 : Nat) (x : Int32) (h : sx_H), sx_Ev S 87 7 [l0, l1, some (.int x), l3] [.ref s0] h = sx_Ev S 87 8 [l0, l1, some (.int x), l3] [.int x, .ref s0] h) ∧
  (∀ (l0 l1 l2 l3 : Option Value) (s0 : Int32) (s1 : Nat) (h : sx_H), sx_Ev S 87 8 [l0, l1, l2, l3] [.int s0, .ref s1] h = sx_back S 87 8 [l0, l1, l2, l3] [] (sx_Cl S 85 [.ref s1, .int s0] h)) ∧
  (∀ (ls : sx_L) (st : List Value) (h : sx_H), sx_back S 87 8 ls st (some (.inl none, h)) = sx_Ev S 87 11 ls st h) ∧
  (∀ (ls : sx_L) (st : List Value) (e : Nat) (h : sx_H), sx_back S 87 8 ls st (some (.inr e, h)) = some (.inr e, h)) ∧
  (∀ (l0 l1 l2 : Option Value) (x : Nat) (h : sx_H), sx_Ev S 87 11 [l0, l1, l2, some (.ref x)] [] h = sx_Ev S 87 12 [l0, l1, l2, some (.ref x)] [.ref x] h) ∧
  (∀ (l0 l1 l3 : Option Value) (s0 : Nat) (x : Int32) (h : sx_H), sx_Ev S 87 12 [l0, l1, some (.int x), l3] [.ref s0] h = sx_Ev S 87 13 [l0, l1, some (.int x), l3] [.int x, .ref s0] h) ∧
  (∀ (l0 l1 l2 l3 : Option Value) (s0 : Int32) (s1 : Nat) (h : sx_H), sx_Ev S 87 13 [l0, l1, l2, l3] [.int s0, .ref s1] h = sx_back S 87 13 [l0, l1, l2, l3] [] (sx_Cl S 5 [.ref s1, .int s0] h)) ∧
  (∀ (ls : sx_L) (st : List Value) (v : Value) (h : sx_H), sx_back S 87 13 ls st (some (.inl (some v), h)) = sx_Ev S 87 16 ls (v :: st) h) ∧
  (∀ (ls : sx_L) (st : List Value) (e : Nat) (h : sx_H), sx_back S 87 13 ls st (some (.inr e, h)) = some (.inr e, h)) ∧
  (∀ (l0 l1 l2 l3 : Option Value) (s0 : Int32) (h : sx_H), sx_Ev S 87 16 [l0, l1, l2, l3] [.int s0] h = some (.inl (some (.int s0)), h)) := ⟨fun _ _ _ _ _ => sx_e_nx rfl rfl,
  fun _ _ _ _ _ _ => sx_e_nx rfl rfl,
  fun _ _ _ _ _ _ _ hv => sx_e_virt rfl rfl ⟨Nat.le_of_ble_eq_true rfl, Nat.le_of_ble_eq_true rfl, rfl⟩ rfl rfl rfl hv,
  fun _ _ _ _ => rfl,
  fun _ _ _ _ => rfl,
  fun _ _ _ _ _ _ => sx_e_nx rfl rfl,
  fun _ _ _ _ _ => sx_e_nx rfl rfl,
  fun _ _ _ _ _ _ => sx_e_nx rfl rfl,
  fun _ _ _ _ _ _ _ => sx_e_ca rfl rfl,
  fun _ _ _ => rfl,
  fun _ _ _ _ => rfl,
  fun _ _ _ _ _ => sx_e_nx rfl rfl,
  fun _ _ _ _ _ _ => sx_e_nx rfl rfl,
  fun _ _ _ _ _ _ _ => sx_e_ca rfl rfl,
  fun _ _ _ _ => rfl,
  fun _ _ _ _ => rfl,
  fun _ _ _ _ _ _ => sx_e_ret rfl rfl rfl⟩
/-- 88: X10_beginOfRun (LBeadslant$Cloth;IIZ)I -/
theorem c88_q (S : List Int32) : ∀ (a0 : Nat) (a1 : Int32) (a2 : Int32) (a3 : Int32) (h : sx_H), sx_Cl S 88 [.ref a0, .int a1, .int a2, .int a3] h = sx_Ev S 88 0 [some (.ref a0), some (.int a1), some (.int a2), some (.int a3), none] [] h := fun _ _ _ _ _ => rfl
theorem q88 (S : List Int32) : (∀ (l1 l2 l3 l4 : Option Value) (x : Nat) (h : sx_H), sx_Ev S 88 0 [some (.ref x), l1, l2, l3, l4] [] h = sx_Ev S 88 1 [some (.ref x), l1, l2, l3, l4] [.ref x] h) ∧
  (∀ (l0 l2 l3 l4 : Option Value) (s0 : Nat) (x : Int32) (h : sx_H), sx_Ev S 88 1 [l0, some (.int x), l2, l3, l4] [.ref s0] h = sx_Ev S 88 2 [l0, some (.int x), l2, l3, l4] [.int x, .ref s0] h) ∧
  (∀ (l0 l1 l3 l4 : Option Value) (s0 : Int32) (s1 : Nat) (x : Int32) (h : sx_H), sx_Ev S 88 2 [l0, l1, some (.int x), l3, l4] [.int s0, .ref s1] h = sx_Ev S 88 3 [l0, l1, some (.int x), l3, l4] [.int x, .int s0, .ref s1] h) ∧
  (∀ (l0 l1 l2 l4 : Option Value) (s0 : Int32) (s1 : Int32) (s2 : Nat) (x : Int32) (h : sx_H), sx_Ev S 88 3 [l0, l1, l2, some (.int x), l4] [.int s0, .int s1, .ref s2] h = sx_Ev S 88 4 [l0, l1, l2, some (.int x), l4] [.int x, .int s0, .int s1, .ref s2] h) ∧
  (∀ (l0 l1 l2 l3 l4 : Option Value) (s0 : Int32) (s1 : Int32) (s2 : Int32) (s3 : Nat) (h : sx_H), sx_Ev S 88 4 [l0, l1, l2, l3, l4] [.int s0, .int s1, .int s2, .ref s3] h = sx_back S 88 4 [l0, l1, l2, l3, l4] [] (sx_Cl S 6 [.ref s3, .int s2, .int s1, .int s0] h)) ∧
  (∀ (ls : sx_L) (st : List Value) (v : Value) (h : sx_H), sx_back S 88 4 ls st (some (.inl (some v), h)) = sx_Ev S 88 7 ls (v :: st) h) ∧
  (∀ (ls : sx_L) (st : List Value) (e : Nat) (h : sx_H), sx_back S 88 4 ls st (some (.inr e, h)) = some (.inr e, h)) ∧
  (∀ (l0 l1 l2 l3 l4 : Option Value) (s0 : Int32) (h : sx_H), sx_Ev S 88 7 [l0, l1, l2, l3, l4] [.int s0] h = sx_Ev S 88 9 [l0, l1, l2, l3, some (.int s0)] [] h) ∧
  (∀ (l0 l1 l2 l3 : Option Value) (x : Int32) (h : sx_H), sx_Ev S 88 9 [l0, l1, l2, l3, some (.int x)] [] h = sx_Ev S 88 11 [l0, l1, l2, l3, some (.int x)] [.int x] h) ∧
  (∀ (l0 l1 l2 l3 l4 : Option Value) (s0 : Int32) (h : sx_H), sx_Ev S 88 11 [l0, l1, l2, l3, l4] [.int s0] h = sx_Ev S 88 12 [l0, l1, l2, l3, l4] [.int (sz (-1)), .int s0] h) ∧
  (∀ (l0 l1 l2 l3 l4 : Option Value) (s0 : Int32) (s1 : Int32) (h : sx_H), sx_Ev S 88 12 [l0, l1, l2, l3, l4] [.int s0, .int s1] h = if s1 = s0 then sx_Ev S 88 15 [l0, l1, l2, l3, l4] [] h else sx_Ev S 88 26 [l0, l1, l2, l3, l4] [] h) ∧
  (∀ (l0 l1 l2 l3 l4 : Option Value) (h : sx_H), sx_Ev S 88 15 [l0, l1, l2, l3, l4] [] h = some (.inr 4, sx_push h none 6)) ∧
  (∀ (l0 l1 l2 l3 : Option Value) (x : Int32) (h : sx_H), sx_Ev S 88 26 [l0, l1, l2, l3, some (.int x)] [] h = sx_Ev S 88 28 [l0, l1, l2, l3, some (.int x)] [.int x] h) ∧
  (∀ (l0 l1 l2 l3 l4 : Option Value) (s0 : Int32) (h : sx_H), sx_Ev S 88 28 [l0, l1, l2, l3, l4] [.int s0] h = some (.inl (some (.int s0)), h)) := ⟨fun _ _ _ _ _ _ => sx_e_nx rfl rfl,
  fun _ _ _ _ _ _ _ => sx_e_nx rfl rfl,
  fun _ _ _ _ _ _ _ _ => sx_e_nx rfl rfl,
  fun _ _ _ _ _ _ _ _ _ => sx_e_nx rfl rfl,
  fun _ _ _ _ _ _ _ _ _ _ => sx_e_ca rfl rfl,
  fun _ _ _ _ => rfl,
  fun _ _ _ _ => rfl,
  fun _ _ _ _ _ _ _ => sx_e_nx rfl rfl,
  fun _ _ _ _ _ _ => sx_e_nx rfl rfl,
  fun _ _ _ _ _ _ _ => sx_e_nx rfl rfl,
  fun _ _ _ _ _ _ _ _ => sx_e_ine rfl (by decide) rfl,
  fun _ _ _ _ _ _ => sx_e_dn rfl rfl,
  fun _ _ _ _ _ _ => sx_e_nx rfl rfl,
  fun _ _ _ _ _ _ _ => sx_e_ret rfl rfl rfl⟩
/-- 89: X10_runLength (IIIZ)I -/
theorem c89_q (S : List Int32) : ∀ (a0 : Nat) (a1 : Int32) (a2 : Int32) (a3 : Int32) (a4 : Int32) (h : sx_H), sx_Cl S 89 [.ref a0, .int a1, .int a2, .int a3, .int a4] h = sx_Ev S 89 0 [some (.ref a0), some (.int a1), some (.int a2), some (.int a3), some (.int a4), none, none] [] h := fun _ _ _ _ _ _ => rfl
theorem q89 (S : List Int32) : (∀ (l1 l2 l3 l4 l5 l6 : Option Value) (x : Nat) (h : sx_H), sx_Ev S 89 0 [some (.ref x), l1, l2, l3, l4, l5, l6] [] h = sx_Ev S 89 1 [some (.ref x), l1, l2, l3, l4, l5, l6] [.ref x] h) ∧
  (∀ (l0 l2 l3 l4 l5 l6 : Option Value) (s0 : Nat) (x : Int32) (h : sx_H), sx_Ev S 89 1 [l0, some (.int x), l2, l3, l4, l5, l6] [.ref s0] h = sx_Ev S 89 2 [l0, some (.int x), l2, l3, l4, l5, l6] [.int x, .ref s0] h) ∧
  (∀ (l0 l1 l2 l3 l4 l5 l6 : Option Value) (s0 : Int32) (s1 : Nat) (h : sx_H), sx_klass h s1 = some 6 → sx_Ev S 89 2 [l0, l1, l2, l3, l4, l5, l6] [.int s0, .ref s1] h = sx_back S 89 2 [l0, l1, l2, l3, l4, l5, l6] [] (sx_Cl S 70 [.ref s1, .int s0] h)) ∧
  (∀ (ls : sx_L) (st : List Value) (v : Value) (h : sx_H), sx_back S 89 2 ls st (some (.inl (some v), h)) = sx_Ev S 89 5 ls (v :: st) h) ∧
  (∀ (ls : sx_L) (st : List Value) (e : Nat) (h : sx_H), sx_back S 89 2 ls st (some (.inr e, h)) = some (.inr e, h)) ∧
  (∀ (l0 l1 l2 l3 l4 l5 l6 : Option Value) (s0 : Nat) (h : sx_H), sx_Ev S 89 5 [l0, l1, l2, l3, l4, l5, l6] [.ref s0] h = sx_Ev S 89 7 [l0, l1, l2, l3, l4, some (.ref s0), l6] [] h) ∧
  (∀ (l0 l1 l2 l3 l4 l6 : Option Value) (x : Nat) (h : sx_H), sx_Ev S 89 7 [l0, l1, l2, l3, l4, some (.ref x), l6] [] h = sx_Ev S 89 9 [l0, l1, l2, l3, l4, some (.ref x), l6] [.ref x] h) ∧
  (∀ (l0 l1 l3 l4 l5 l6 : Option Value) (s0 : Nat) (x : Int32) (h : sx_H), sx_Ev S 89 9 [l0, l1, some (.int x), l3, l4, l5, l6] [.ref s0] h = sx_Ev S 89 10 [l0, l1, some (.int x), l3, l4, l5, l6] [.int x, .ref s0] h) ∧
  (∀ (l0 l1 l2 l3 l4 l5 l6 : Option Value) (s0 : Int32) (s1 : Nat) (h : sx_H), sx_Ev S 89 10 [l0, l1, l2, l3, l4, l5, l6] [.int s0, .ref s1] h = sx_back S 89 10 [l0, l1, l2, l3, l4, l5, l6] [] (sx_Cl S 85 [.ref s1, .int s0] h)) ∧
  (∀ (ls : sx_L) (st : List Value) (h : sx_H), sx_back S 89 10 ls st (some (.inl none, h)) = sx_Ev S 89 13 ls st h) ∧
  (∀ (ls : sx_L) (st : List Value) (e : Nat) (h : sx_H), sx_back S 89 10 ls st (some (.inr e, h)) = some (.inr e, h)) ∧
  (∀ (l0 l1 l2 l3 l4 l6 : Option Value) (x : Nat) (h : sx_H), sx_Ev S 89 13 [l0, l1, l2, l3, l4, some (.ref x), l6] [] h = sx_Ev S 89 15 [l0, l1, l2, l3, l4, some (.ref x), l6] [.ref x] h) ∧
  (∀ (l0 l1 l3 l4 l5 l6 : Option Value) (s0 : Nat) (x : Int32) (h : sx_H), sx_Ev S 89 15 [l0, l1, some (.int x), l3, l4, l5, l6] [.ref s0] h = sx_Ev S 89 16 [l0, l1, some (.int x), l3, l4, l5, l6] [.int x, .ref s0] h) ∧
  (∀ (l0 l1 l2 l4 l5 l6 : Option Value) (s0 : Int32) (s1 : Nat) (x : Int32) (h : sx_H), sx_Ev S 89 16 [l0, l1, l2, some (.int x), l4, l5, l6] [.int s0, .ref s1] h = sx_Ev S 89 17 [l0, l1, l2, some (.int x), l4, l5, l6] [.int x, .int s0, .ref s1] h) ∧
  (∀ (l0 l1 l2 l3 l5 l6 : Option Value) (s0 : Int32) (s1 : Int32) (s2 : Nat) (x : Int32) (h : sx_H), sx_Ev S 89 17 [l0, l1, l2, l3, some (.int x), l5, l6] [.int s0, .int s1, .ref s2] h = sx_Ev S 89 19 [l0, l1, l2, l3, some (.int x), l5, l6] [.int x, .int s0, .int s1, .ref s2] h) ∧
  (∀ (l0 l1 l2 l3 l4 l5 l6 : Option Value) (s0 : Int32) (s1 : Int32) (s2 : Int32) (s3 : Nat) (h : sx_H), sx_Ev S 89 19 [l0, l1, l2, l3, l4, l5, l6] [.int s0, .int s1, .int s2, .ref s3] h = sx_back S 89 19 [l0, l1, l2, l3, l4, l5, l6] [] (sx_Cl S 88 [.ref s3, .int s2, .int s1, .int s0] h)) ∧
  (∀ (ls : sx_L) (st : List Value) (v : Value) (h : sx_H), sx_back S 89 19 ls st (some (.inl (some v), h)) = sx_Ev S 89 22 ls (v :: st) h) ∧
  (∀ (ls : sx_L) (st : List Value) (e : Nat) (h : sx_H), sx_back S 89 19 ls st (some (.inr e, h)) = some (.inr e, h)) ∧
  (∀ (l0 l1 l2 l3 l4 l5 l6 : Option Value) (s0 : Int32) (h : sx_H), sx_Ev S 89 22 [l0, l1, l2, l3, l4, l5, l6] [.int s0] h = sx_Ev S 89 24 [l0, l1, l2, l3, l4, l5, some (.int s0)] [] h) ∧
  (∀ (l0 l1 l2 l3 l4 l6 : Option Value) (x : Nat) (h : sx_H), sx_Ev S 89 24 [l0, l1, l2, l3, l4, some (.ref x), l6] [] h = sx_Ev S 89 26 [l0, l1, l2, l3, l4, some (.ref x), l6] [.ref x] h) ∧
  (∀ (l0 l1 l3 l4 l5 l6 : Option Value) (s0 : Nat) (x : Int32) (h : sx_H), sx_Ev S 89 26 [l0, l1, some (.int x), l3, l4, l5, l6] [.ref s0] h = sx_Ev S 89 27 [l0, l1, some (.int x), l3, l4, l5, l6] [.int x, .ref s0] h) ∧
  (∀ (l0 l1 l2 l3 l4 l5 : Option Value) (s0 : Int32) (s1 : Nat) (x : Int32) (h : sx_H), sx_Ev S 89 27 [l0, l1, l2, l3, l4, l5, some (.int x)] [.int s0, .ref s1] h = sx_Ev S 89 29 [l0, l1, l2, l3, l4, l5, some (.int x)] [.int x, .int s0, .ref s1] h) ∧
  (∀ (l0 l1 l2 l3 l5 l6 : Option Value) (s0 : Int32) (s1 : Int32) (s2 : Nat) (x : Int32) (h : sx_H), sx_Ev S 89 29 [l0, l1, l2, l3, some (.int x), l5, l6] [.int s0, .int s1, .ref s2] h = sx_Ev S 89 31 [l0, l1, l2, l3, some (.int x), l5, l6] [.int x, .int s0, .int s1, .ref s2] h) ∧
  (∀ (l0 l1 l2 l3 l4 l5 l6 : Option Value) (s0 : Int32) (s1 : Int32) (s2 : Int32) (s3 : Nat) (h : sx_H), sx_Ev S 89 31 [l0, l1, l2, l3, l4, l5, l6] [.int s0, .int s1, .int s2, .ref s3] h = sx_back S 89 31 [l0, l1, l2, l3, l4, l5, l6] [] (sx_Cl S 7 [.ref s3, .int s2, .int s1, .int s0] h)) ∧
  (∀ (ls : sx_L) (st : List Value) (v : Value) (h : sx_H), sx_back S 89 31 ls st (some (.inl (some v), h)) = sx_Ev S 89 34 ls (v :: st) h) ∧
  (∀ (ls : sx_L) (st : List Value) (e : Nat) (h : sx_H), sx_back S 89 31 ls st (some (.inr e, h)) = some (.inr e, h)) ∧
  (∀ (l0 l1 l2 l3 l4 l5 l6 : Option Value) (s0 : Int32) (h : sx_H), sx_Ev S 89 34 [l0, l1, l2, l3, l4, l5, l6] [.int s0] h = some (.inl (some (.int s0)), h)) := ⟨fun _ _ _ _ _ _ _ _ => sx_e_nx rfl rfl,
  fun _ _ _ _ _ _ _ _ _ => sx_e_nx rfl rfl,
  fun _ _ _ _ _ _ _ _ _ _ hv => sx_e_virt rfl rfl ⟨Nat.le_of_ble_eq_true rfl, Nat.le_of_ble_eq_true rfl, rfl⟩ rfl rfl rfl hv,
  fun _ _ _ _ => rfl,
  fun _ _ _ _ => rfl,
  fun _ _ _ _ _ _ _ _ _ => sx_e_nx rfl rfl,
  fun _ _ _ _ _ _ _ _ => sx_e_nx rfl rfl,
  fun _ _ _ _ _ _ _ _ _ => sx_e_nx rfl rfl,
  fun _ _ _ _ _ _ _ _ _ _ => sx_e_ca rfl rfl,
  fun _ _ _ => rfl,
  fun _ _ _ _ => rfl,
  fun _ _ _ _ _ _ _ _ => sx_e_nx rfl rfl,
  fun _ _ _ _ _ _ _ _ _ => sx_e_nx rfl rfl,
  fun _ _ _ _ _ _ _ _ _ _ => sx_e_nx rfl rfl,
  fun _ _ _ _ _ _ _ _ _ _ _ => sx_e_nx rfl rfl,
  fun _ _ _ _ _ _ _ _ _ _ _ _ => sx_e_ca rfl rfl,
  fun _ _ _ _ => rfl,
  fun _ _ _ _ => rfl,
  fun _ _ _ _ _ _ _ _ _ => sx_e_nx rfl rfl,
  fun _ _ _ _ _ _ _ _ => sx_e_nx rfl rfl,
  fun _ _ _ _ _ _ _ _ _ => sx_e_nx rfl rfl,
  fun _ _ _ _ _ _ _ _ _ _ => sx_e_nx rfl rfl,
  fun _ _ _ _ _ _ _ _ _ _ _ => sx_e_nx rfl rfl,
  fun _ _ _ _ _ _ _ _ _ _ _ _ => sx_e_ca rfl rfl,
  fun _ _ _ _ => rfl,
  fun _ _ _ _ => rfl,
  fun _ _ _ _ _ _ _ _ _ => sx_e_ret rfl rfl rfl⟩
/-- 90: X10_runColour (IIIZ)I -/
theorem c90_q (S : List Int32) : ∀ (a0 : Nat) (a1 : Int32) (a2 : Int32) (a3 : Int32) (a4 : Int32) (h : sx_H), sx_Cl S 90 [.ref a0, .int a1, .int a2, .int a3, .int a4] h = sx_Ev S 90 0 [some (.ref a0), some (.int a1), some (.int a2), some (.int a3), some (.int a4), none] [] h := fun _ _ _ _ _ _ => rfl
theorem q90 (S : List Int32) : (∀ (l1 l2 l3 l4 l5 : Option Value) (x : Nat) (h : sx_H), sx_Ev S 90 0 [some (.ref x), l1, l2, l3, l4, l5] [] h = sx_Ev S 90 1 [some (.ref x), l1, l2, l3, l4, l5] [.ref x] h) ∧
  (∀ (l0 l2 l3 l4 l5 : Option Value) (s0 : Nat) (x : Int32) (h : sx_H), sx_Ev S 90 1 [l0, some (.int x), l2, l3, l4, l5] [.ref s0] h = sx_Ev S 90 2 [l0, some (.int x), l2, l3, l4, l5] [.int x, .ref s0] h) ∧
  (∀ (l0 l1 l2 l3 l4 l5 : Option Value) (s0 : Int32) (s1 : Nat) (h : sx_H), sx_klass h s1 = some 6 → sx_Ev S 90 2 [l0, l1, l2, l3, l4, l5] [.int s0, .ref s1] h = sx_back S 90 2 [l0, l1, l2, l3, l4, l5] [] (sx_Cl S 70 [.ref s1, .int s0] h)) ∧
  (∀ (ls : sx_L) (st : List Value) (v : Value) (h : sx_H), sx_back S 90 2 ls st (some (.inl (some v), h)) = sx_Ev S 90 5 ls (v :: st) h) ∧
  (∀ (ls : sx_L) (st : List Value) (e : Nat) (h : sx_H), sx_back S 90 2 ls st (some (.inr e, h)) = some (.inr e, h)) ∧
  (∀ (l0 l1 l2 l3 l4 l5 : Option Value) (s0 : Nat) (h : sx_H), sx_Ev S 90 5 [l0, l1, l2, l3, l4, l5] [.ref s0] h = sx_Ev S 90 7 [l0, l1, l2, l3, l4, some (.ref s0)] [] h) ∧
  (∀ (l0 l1 l2 l3 l4 : Option Value) (x : Nat) (h : sx_H), sx_Ev S 90 7 [l0, l1, l2, l3, l4, some (.ref x)] [] h = sx_Ev S 90 9 [l0, l1, l2, l3, l4, some (.ref x)] [.ref x] h) ∧
  (∀ (l0 l1 l3 l4 l5 : Option Value) (s0 : Nat) (x : Int32) (h : sx_H), sx_Ev S 90 9 [l0, l1, some (.int x), l3, l4, l5] [.ref s0] h = sx_Ev S 90 10 [l0, l1, some (.int x), l3, l4, l5] [.int x, .ref s0] h) ∧
  (∀ (l0 l1 l2 l3 l4 l5 : Option Value) (s0 : Int32) (s1 : Nat) (h : sx_H), sx_Ev S 90 10 [l0, l1, l2, l3, l4, l5] [.int s0, .ref s1] h = sx_back S 90 10 [l0, l1, l2, l3, l4, l5] [] (sx_Cl S 85 [.ref s1, .int s0] h)) ∧
  (∀ (ls : sx_L) (st : List Value) (h : sx_H), sx_back S 90 10 ls st (some (.inl none, h)) = sx_Ev S 90 13 ls st h) ∧
  (∀ (ls : sx_L) (st : List Value) (e : Nat) (h : sx_H), sx_back S 90 10 ls st (some (.inr e, h)) = some (.inr e, h)) ∧
  (∀ (l0 l1 l2 l3 l4 : Option Value) (x : Nat) (h : sx_H), sx_Ev S 90 13 [l0, l1, l2, l3, l4, some (.ref x)] [] h = sx_Ev S 90 15 [l0, l1, l2, l3, l4, some (.ref x)] [.ref x] h) ∧
  (∀ (l0 l1 l3 l4 l5 : Option Value) (s0 : Nat) (x : Int32) (h : sx_H), sx_Ev S 90 15 [l0, l1, some (.int x), l3, l4, l5] [.ref s0] h = sx_Ev S 90 16 [l0, l1, some (.int x), l3, l4, l5] [.int x, .ref s0] h) ∧
  (∀ (l0 l1 l2 l3 l4 : Option Value) (s0 : Int32) (s1 : Nat) (x : Nat) (h : sx_H), sx_Ev S 90 16 [l0, l1, l2, l3, l4, some (.ref x)] [.int s0, .ref s1] h = sx_Ev S 90 18 [l0, l1, l2, l3, l4, some (.ref x)] [.ref x, .int s0, .ref s1] h) ∧
  (∀ (l0 l1 l3 l4 l5 : Option Value) (s0 : Nat) (s1 : Int32) (s2 : Nat) (x : Int32) (h : sx_H), sx_Ev S 90 18 [l0, l1, some (.int x), l3, l4, l5] [.ref s0, .int s1, .ref s2] h = sx_Ev S 90 19 [l0, l1, some (.int x), l3, l4, l5] [.int x, .ref s0, .int s1, .ref s2] h) ∧
  (∀ (l0 l1 l2 l4 l5 : Option Value) (s0 : Int32) (s1 : Nat) (s2 : Int32) (s3 : Nat) (x : Int32) (h : sx_H), sx_Ev S 90 19 [l0, l1, l2, some (.int x), l4, l5] [.int s0, .ref s1, .int s2, .ref s3] h = sx_Ev S 90 20 [l0, l1, l2, some (.int x), l4, l5] [.int x, .int s0, .ref s1, .int s2, .ref s3] h) ∧
  (∀ (l0 l1 l2 l3 l5 : Option Value) (s0 : Int32) (s1 : Int32) (s2 : Nat) (s3 : Int32) (s4 : Nat) (x : Int32) (h : sx_H), sx_Ev S 90 20 [l0, l1, l2, l3, some (.int x), l5] [.int s0, .int s1, .ref s2, .int s3, .ref s4] h = sx_Ev S 90 22 [l0, l1, l2, l3, some (.int x), l5] [.int x, .int s0, .int s1, .ref s2, .int s3, .ref s4] h) ∧
  (∀ (l0 l1 l2 l3 l4 l5 : Option Value) (s0 : Int32) (s1 : Int32) (s2 : Int32) (s3 : Nat) (s4 : Int32) (s5 : Nat) (h : sx_H), sx_Ev S 90 22 [l0, l1, l2, l3, l4, l5] [.int s0, .int s1, .int s2, .ref s3, .int s4, .ref s5] h = sx_back S 90 22 [l0, l1, l2, l3, l4, l5] [.int s4, .ref s5] (sx_Cl S 88 [.ref s3, .int s2, .int s1, .int s0] h)) ∧
  (∀ (ls : sx_L) (st : List Value) (v : Value) (h : sx_H), sx_back S 90 22 ls st (some (.inl (some v), h)) = sx_Ev S 90 25 ls (v :: st) h) ∧
  (∀ (ls : sx_L) (st : List Value) (e : Nat) (h : sx_H), sx_back S 90 22 ls st (some (.inr e, h)) = some (.inr e, h)) ∧
  (∀ (l0 l1 l2 l3 l4 l5 : Option Value) (s0 : Int32) (s1 : Int32) (s2 : Nat) (h : sx_H), sx_klass h s2 = some 0 → sx_Ev S 90 25 [l0, l1, l2, l3, l4, l5] [.int s0, .int s1, .ref s2] h = sx_back S 90 25 [l0, l1, l2, l3, l4, l5] [] (sx_Cl S 0 [.ref s2, .int s1, .int s0] h)) ∧
  (∀ (ls : sx_L) (st : List Value) (v : Value) (h : sx_H), sx_back S 90 25 ls st (some (.inl (some v), h)) = sx_Ev S 90 28 ls (v :: st) h) ∧
  (∀ (ls : sx_L) (st : List Value) (e : Nat) (h : sx_H), sx_back S 90 25 ls st (some (.inr e, h)) = some (.inr e, h)) ∧
  (∀ (l0 l1 l2 l3 l4 l5 : Option Value) (s0 : Int32) (h : sx_H), sx_Ev S 90 28 [l0, l1, l2, l3, l4, l5] [.int s0] h = some (.inl (some (.int s0)), h)) := ⟨fun _ _ _ _ _ _ _ => sx_e_nx rfl rfl,
  fun _ _ _ _ _ _ _ _ => sx_e_nx rfl rfl,
  fun _ _ _ _ _ _ _ _ _ hv => sx_e_virt rfl rfl ⟨Nat.le_of_ble_eq_true rfl, Nat.le_of_ble_eq_true rfl, rfl⟩ rfl rfl rfl hv,
  fun _ _ _ _ => rfl,
  fun _ _ _ _ => rfl,
  fun _ _ _ _ _ _ _ _ => sx_e_nx rfl rfl,
  fun _ _ _ _ _ _ _ => sx_e_nx rfl rfl,
  fun _ _ _ _ _ _ _ _ => sx_e_nx rfl rfl,
  fun _ _ _ _ _ _ _ _ _ => sx_e_ca rfl rfl,
  fun _ _ _ => rfl,
  fun _ _ _ _ => rfl,
  fun _ _ _ _ _ _ _ => sx_e_nx rfl rfl,
  fun _ _ _ _ _ _ _ _ => sx_e_nx rfl rfl,
  fun _ _ _ _ _ _ _ _ _ => sx_e_nx rfl rfl,
  fun _ _ _ _ _ _ _ _ _ _ => sx_e_nx rfl rfl,
  fun _ _ _ _ _ _ _ _ _ _ _ => sx_e_nx rfl rfl,
  fun _ _ _ _ _ _ _ _ _ _ _ _ => sx_e_nx rfl rfl,
  fun _ _ _ _ _ _ _ _ _ _ _ _ _ => sx_e_ca rfl rfl,
  fun _ _ _ _ => rfl,
  fun _ _ _ _ => rfl,
  fun _ _ _ _ _ _ _ _ _ _ hv => sx_e_virt rfl rfl ⟨Nat.le_of_ble_eq_true rfl, Nat.le_of_ble_eq_true rfl, rfl⟩ rfl rfl rfl hv,
  fun _ _ _ _ => rfl,
  fun _ _ _ _ => rfl,
  fun _ _ _ _ _ _ _ _ => sx_e_ret rfl rfl rfl⟩
/-- 91: X10_runWord (IIII)I -/
theorem c91_q (S : List Int32) : ∀ (a0 : Nat) (a1 : Int32) (a2 : Int32) (a3 : Int32) (a4 : Int32) (h : sx_H), sx_Cl S 91 [.ref a0, .int a1, .int a2, .int a3, .int a4] h = sx_Ev S 91 0 [some (.ref a0), some (.int a1), some (.int a2), some (.int a3), some (.int a4), none, none] [] h := fun _ _ _ _ _ _ => rfl
theorem q91 (S : List Int32) : (∀ (l1 l2 l3 l4 l5 l6 : Option Value) (x : Nat) (h : sx_H), sx_Ev S 91 0 [some (.ref x), l1, l2, l3, l4, l5, l6] [] h = sx_Ev S 91 1 [some (.ref x), l1, l2, l3, l4, l5, l6] [.ref x] h) ∧
  (∀ (l0 l2 l3 l4 l5 l6 : Option Value) (s0 : Nat) (x : Int32) (h : sx_H), sx_Ev S 91 1 [l0, some (.int x), l2, l3, l4, l5, l6] [.ref s0] h = sx_Ev S 91 2 [l0, some (.int x), l2, l3, l4, l5, l6] [.int x, .ref s0] h) ∧
  (∀ (l0 l1 l2 l3 l4 l5 l6 : Option Value) (s0 : Int32) (s1 : Nat) (h : sx_H), sx_klass h s1 = some 6 → sx_Ev S 91 2 [l0, l1, l2, l3, l4, l5, l6] [.int s0, .ref s1] h = sx_back S 91 2 [l0, l1, l2, l3, l4, l5, l6] [] (sx_Cl S 70 [.ref s1, .int s0] h)) ∧
  (∀ (ls : sx_L) (st : List Value) (v : Value) (h : sx_H), sx_back S 91 2 ls st (some (.inl (some v), h)) = sx_Ev S 91 5 ls (v :: st) h) ∧
  (∀ (ls : sx_L) (st : List Value) (e : Nat) (h : sx_H), sx_back S 91 2 ls st (some (.inr e, h)) = some (.inr e, h)) ∧
  (∀ (l0 l1 l2 l3 l4 l5 l6 : Option Value) (s0 : Nat) (h : sx_H), sx_Ev S 91 5 [l0, l1, l2, l3, l4, l5, l6] [.ref s0] h = sx_Ev S 91 7 [l0, l1, l2, l3, l4, some (.ref s0), l6] [] h) ∧
  (∀ (l0 l1 l2 l3 l4 l6 : Option Value) (x : Nat) (h : sx_H), sx_Ev S 91 7 [l0, l1, l2, l3, l4, some (.ref x), l6] [] h = sx_Ev S 91 9 [l0, l1, l2, l3, l4, some (.ref x), l6] [.ref x] h) ∧
  (∀ (l0 l1 l3 l4 l5 l6 : Option Value) (s0 : Nat) (x : Int32) (h : sx_H), sx_Ev S 91 9 [l0, l1, some (.int x), l3, l4, l5, l6] [.ref s0] h = sx_Ev S 91 10 [l0, l1, some (.int x), l3, l4, l5, l6] [.int x, .ref s0] h) ∧
  (∀ (l0 l1 l2 l3 l4 l5 l6 : Option Value) (s0 : Int32) (s1 : Nat) (h : sx_H), sx_Ev S 91 10 [l0, l1, l2, l3, l4, l5, l6] [.int s0, .ref s1] h = sx_back S 91 10 [l0, l1, l2, l3, l4, l5, l6] [] (sx_Cl S 85 [.ref s1, .int s0] h)) ∧
  (∀ (ls : sx_L) (st : List Value) (h : sx_H), sx_back S 91 10 ls st (some (.inl none, h)) = sx_Ev S 91 13 ls st h) ∧
  (∀ (ls : sx_L) (st : List Value) (e : Nat) (h : sx_H), sx_back S 91 10 ls st (some (.inr e, h)) = some (.inr e, h)) ∧
  (∀ (l0 l1 l2 l3 l5 l6 : Option Value) (x : Int32) (h : sx_H), sx_Ev S 91 13 [l0, l1, l2, l3, some (.int x), l5, l6] [] h = sx_Ev S 91 15 [l0, l1, l2, l3, some (.int x), l5, l6] [.int x] h) ∧
  (∀ (l0 l1 l2 l3 l4 l5 l6 : Option Value) (s0 : Int32) (h : sx_H), sx_Ev S 91 15 [l0, l1, l2, l3, l4, l5, l6] [.int s0] h = sx_Ev S 91 16 [l0, l1, l2, l3, l4, l5, l6] [.int (sz (0)), .int s0] h) ∧
  (∀ (l0 l1 l2 l3 l4 l5 l6 : Option Value) (s0 : Int32) (s1 : Int32) (h : sx_H), sx_Ev S 91 16 [l0, l1, l2, l3, l4, l5, l6] [.int s0, .int s1] h = sx_Ev S 91 17 [l0, l1, l2, l3, l4, l5, l6] [.int (sz (2)), .int s0, .int s1] h) ∧
  (∀ (l0 l1 l2 l3 l4 l5 l6 : Option Value) (s0 : Int32) (s1 : Int32) (s2 : Int32) (h : sx_H), sx_Ev S 91 17 [l0, l1, l2, l3, l4, l5, l6] [.int s0, .int s1, .int s2] h = sx_back S 91 17 [l0, l1, l2, l3, l4, l5, l6] [] (sx_Cl S 66 [.int s2, .int s1, .int s0] h)) ∧
  (∀ (ls : sx_L) (st : List Value) (h : sx_H), sx_back S 91 17 ls st (some (.inl none, h)) = sx_Ev S 91 20 ls st h) ∧
  (∀ (ls : sx_L) (st : List Value) (e : Nat) (h : sx_H), sx_back S 91 17 ls st (some (.inr e, h)) = some (.inr e, h)) ∧
  (∀ (l0 l1 l2 l3 l4 l6 : Option Value) (x : Nat) (h : sx_H), sx_Ev S 91 20 [l0, l1, l2, l3, l4, some (.ref x), l6] [] h = sx_Ev S 91 22 [l0, l1, l2, l3, l4, some (.ref x), l6] [.ref x] h) ∧
  (∀ (l0 l1 l3 l4 l5 l6 : Option Value) (s0 : Nat) (x : Int32) (h : sx_H), sx_Ev S 91 22 [l0, l1, some (.int x), l3, l4, l5, l6] [.ref s0] h = sx_Ev S 91 23 [l0, l1, some (.int x), l3, l4, l5, l6] [.int x, .ref s0] h) ∧
  (∀ (l0 l1 l2 l3 l4 l6 : Option Value) (s0 : Int32) (s1 : Nat) (x : Nat) (h : sx_H), sx_Ev S 91 23 [l0, l1, l2, l3, l4, some (.ref x), l6] [.int s0, .ref s1] h = sx_Ev S 91 25 [l0, l1, l2, l3, l4, some (.ref x), l6] [.ref x, .int s0, .ref s1] h) ∧
  (∀ (l0 l1 l3 l4 l5 l6 : Option Value) (s0 : Nat) (s1 : Int32) (s2 : Nat) (x : Int32) (h : sx_H), sx_Ev S 91 25 [l0, l1, some (.int x), l3, l4, l5, l6] [.ref s0, .int s1, .ref s2] h = sx_Ev S 91 26 [l0, l1, some (.int x), l3, l4, l5, l6] [.int x, .ref s0, .int s1, .ref s2] h) ∧
  (∀ (l0 l1 l2 l4 l5 l6 : Option Value) (s0 : Int32) (s1 : Nat) (s2 : Int32) (s3 : Nat) (x : Int32) (h : sx_H), sx_Ev S 91 26 [l0, l1, l2, some (.int x), l4, l5, l6] [.int s0, .ref s1, .int s2, .ref s3] h = sx_Ev S 91 27 [l0, l1, l2, some (.int x), l4, l5, l6] [.int x, .int s0, .ref s1, .int s2, .ref s3] h) ∧
  (∀ (l0 l1 l2 l3 l4 l5 l6 : Option Value) (s0 : Int32) (s1 : Int32) (s2 : Nat) (s3 : Int32) (s4 : Nat) (h : sx_H), sx_Ev S 91 27 [l0, l1, l2, l3, l4, l5, l6] [.int s0, .int s1, .ref s2, .int s3, .ref s4] h = sx_Ev S 91 28 [l0, l1, l2, l3, l4, l5, l6] [.int (sz (0)), .int s0, .int s1, .ref s2, .int s3, .ref s4] h) ∧
  (∀ (l0 l1 l2 l3 l4 l5 l6 : Option Value) (s0 : Int32) (s1 : Int32) (s2 : Int32) (s3 : Nat) (s4 : Int32) (s5 : Nat) (h : sx_H), sx_Ev S 91 28 [l0, l1, l2, l3, l4, l5, l6] [.int s0, .int s1, .int s2, .ref s3, .int s4, .ref s5] h = sx_back S 91 28 [l0, l1, l2, l3, l4, l5, l6] [.int s4, .ref s5] (sx_Cl S 88 [.ref s3, .int s2, .int s1, .int s0] h)) ∧
  (∀ (ls : sx_L) (st : List Value) (v : Value) (h : sx_H), sx_back S 91 28 ls st (some (.inl (some v), h)) = sx_Ev S 91 31 ls (v :: st) h) ∧
  (∀ (ls : sx_L) (st : List Value) (e : Nat) (h : sx_H), sx_back S 91 28 ls st (some (.inr e, h)) = some (.inr e, h)) ∧
  (∀ (l0 l1 l2 l3 l4 l5 l6 : Option Value) (s0 : Int32) (s1 : Int32) (s2 : Nat) (h : sx_H), sx_klass h s2 = some 0 → sx_Ev S 91 31 [l0, l1, l2, l3, l4, l5, l6] [.int s0, .int s1, .ref s2] h = sx_back S 91 31 [l0, l1, l2, l3, l4, l5, l6] [] (sx_Cl S 0 [.ref s2, .int s1, .int s0] h)) ∧
  (∀ (ls : sx_L) (st : List Value) (v : Value) (h : sx_H), sx_back S 91 31 ls st (some (.inl (some v), h)) = sx_Ev S 91 34 ls (v :: st) h) ∧
  (∀ (ls : sx_L) (st : List Value) (e : Nat) (h : sx_H), sx_back S 91 31 ls st (some (.inr e, h)) = some (.inr e, h)) ∧
  (∀ (l0 l1 l2 l3 l4 l5 l6 : Option Value) (s0 : Int32) (h : sx_H), sx_Ev S 91 34 [l0, l1, l2, l3, l4, l5, l6] [.int s0] h = sx_Ev S 91 36 [l0, l1, l2, l3, l4, l5, some (.int s0)] [] h) ∧
  (∀ (l1 l2 l3 l4 l5 l6 : Option Value) (x : Nat) (h : sx_H), sx_Ev S 91 36 [some (.ref x), l1, l2, l3, l4, l5, l6] [] h = sx_Ev S 91 37 [some (.ref x), l1, l2, l3, l4, l5, l6] [.ref x] h) ∧
  (∀ (l0 l1 l2 l3 l4 l5 l6 : Option Value) (s0 : Nat) (h : sx_H), sx_Ev S 91 37 [l0, l1, l2, l3, l4, l5, l6] [.ref s0] h = (sx_fld h s0 6 4).bind fun v => sx_Ev S 91 40 [l0, l1, l2, l3, l4, l5, l6] [v] h) ∧
  (∀ (l0 l1 l2 l3 l5 l6 : Option Value) (s0 : Nat) (x : Int32) (h : sx_H), sx_Ev S 91 40 [l0, l1, l2, l3, some (.int x), l5, l6] [.ref s0] h = sx_Ev S 91 42 [l0, l1, l2, l3, some (.int x), l5, l6] [.int x, .ref s0] h) ∧
  (∀ (l0 l1 l2 l3 l4 l5 : Option Value) (s0 : Int32) (s1 : Nat) (x : Int32) (h : sx_H), sx_Ev S 91 42 [l0, l1, l2, l3, l4, l5, some (.int x)] [.int s0, .ref s1] h = sx_Ev S 91 44 [l0, l1, l2, l3, l4, l5, some (.int x)] [.int x, .int s0, .ref s1] h) ∧
  (∀ (l0 l1 l2 l3 l4 l5 l6 : Option Value) (s0 : Int32) (s1 : Int32) (s2 : Nat) (h : sx_H), sx_klass h s2 = some 5 → sx_Ev S 91 44 [l0, l1, l2, l3, l4, l5, l6] [.int s0, .int s1, .ref s2] h = sx_back S 91 44 [l0, l1, l2, l3, l4, l5, l6] [] (sx_Cl S 64 [.ref s2, .int s1, .int s0] h)) ∧
  (∀ (ls : sx_L) (st : List Value) (v : Value) (h : sx_H), sx_back S 91 44 ls st (some (.inl (some v), h)) = sx_Ev S 91 47 ls (v :: st) h) ∧
  (∀ (ls : sx_L) (st : List Value) (e : Nat) (h : sx_H), sx_back S 91 44 ls st (some (.inr e, h)) = some (.inr e, h)) ∧
  (∀ (l0 l1 l2 l3 l4 l5 l6 : Option Value) (s0 : Int32) (h : sx_H), sx_Ev S 91 47 [l0, l1, l2, l3, l4, l5, l6] [.int s0] h = some (.inl (some (.int s0)), h)) := ⟨fun _ _ _ _ _ _ _ _ => sx_e_nx rfl rfl,
  fun _ _ _ _ _ _ _ _ _ => sx_e_nx rfl rfl,
  fun _ _ _ _ _ _ _ _ _ _ hv => sx_e_virt rfl rfl ⟨Nat.le_of_ble_eq_true rfl, Nat.le_of_ble_eq_true rfl, rfl⟩ rfl rfl rfl hv,
  fun _ _ _ _ => rfl,
  fun _ _ _ _ => rfl,
  fun _ _ _ _ _ _ _ _ _ => sx_e_nx rfl rfl,
  fun _ _ _ _ _ _ _ _ => sx_e_nx rfl rfl,
  fun _ _ _ _ _ _ _ _ _ => sx_e_nx rfl rfl,
  fun _ _ _ _ _ _ _ _ _ _ => sx_e_ca rfl rfl,
  fun _ _ _ => rfl,
  fun _ _ _ _ => rfl,
  fun _ _ _ _ _ _ _ _ => sx_e_nx rfl rfl,
  fun _ _ _ _ _ _ _ _ _ => sx_e_nx rfl rfl,
  fun _ _ _ _ _ _ _ _ _ _ => sx_e_nx rfl rfl,
  fun _ _ _ _ _ _ _ _ _ _ _ => sx_e_ca rfl rfl,
  fun _ _ _ => rfl,
  fun _ _ _ _ => rfl,
  fun _ _ _ _ _ _ _ _ => sx_e_nx rfl rfl,
  fun _ _ _ _ _ _ _ _ _ => sx_e_nx rfl rfl,
  fun _ _ _ _ _ _ _ _ _ _ => sx_e_nx rfl rfl,
  fun _ _ _ _ _ _ _ _ _ _ _ => sx_e_nx rfl rfl,
  fun _ _ _ _ _ _ _ _ _ _ _ _ => sx_e_nx rfl rfl,
  fun _ _ _ _ _ _ _ _ _ _ _ _ _ => sx_e_nx rfl rfl,
  fun _ _ _ _ _ _ _ _ _ _ _ _ _ _ => sx_e_ca rfl rfl,
  fun _ _ _ _ => rfl,
  fun _ _ _ _ => rfl,
  fun _ _ _ _ _ _ _ _ _ _ _ hv => sx_e_virt rfl rfl ⟨Nat.le_of_ble_eq_true rfl, Nat.le_of_ble_eq_true rfl, rfl⟩ rfl rfl rfl hv,
  fun _ _ _ _ => rfl,
  fun _ _ _ _ => rfl,
  fun _ _ _ _ _ _ _ _ _ => sx_e_nx rfl rfl,
  fun _ _ _ _ _ _ _ _ => sx_e_nx rfl rfl,
  fun _ _ _ _ _ _ _ _ _ => sx_e_getf rfl rfl (by decide) rfl,
  fun _ _ _ _ _ _ _ _ _ => sx_e_nx rfl rfl,
  fun _ _ _ _ _ _ _ _ _ _ => sx_e_nx rfl rfl,
  fun _ _ _ _ _ _ _ _ _ _ _ hv => sx_e_virt rfl rfl ⟨Nat.le_of_ble_eq_true rfl, Nat.le_of_ble_eq_true rfl, rfl⟩ rfl rfl rfl hv,
  fun _ _ _ _ => rfl,
  fun _ _ _ _ => rfl,
  fun _ _ _ _ _ _ _ _ _ => sx_e_ret rfl rfl rfl⟩
/-- 92: X10_shared (III)I -/
theorem c92_q (S : List Int32) : ∀ (a0 : Nat) (a1 : Int32) (a2 : Int32) (a3 : Int32) (h : sx_H), sx_Cl S 92 [.ref a0, .int a1, .int a2, .int a3] h = sx_Ev S 92 0 [some (.ref a0), some (.int a1), some (.int a2), some (.int a3), none, none, none] [] h := fun _ _ _ _ _ => rfl
theorem q92 (S : List Int32) : (∀ (l1 l2 l3 l4 l5 l6 : Option Value) (x : Nat) (h : sx_H), sx_Ev S 92 0 [some (.ref x), l1, l2, l3, l4, l5, l6] [] h = sx_Ev S 92 1 [some (.ref x), l1, l2, l3, l4, l5, l6] [.ref x] h) ∧
  (∀ (l0 l2 l3 l4 l5 l6 : Option Value) (s0 : Nat) (x : Int32) (h : sx_H), sx_Ev S 92 1 [l0, some (.int x), l2, l3, l4, l5, l6] [.ref s0] h = sx_Ev S 92 2 [l0, some (.int x), l2, l3, l4, l5, l6] [.int x, .ref s0] h) ∧
  (∀ (l0 l1 l2 l3 l4 l5 l6 : Option Value) (s0 : Int32) (s1 : Nat) (h : sx_H), sx_klass h s1 = some 6 → sx_Ev S 92 2 [l0, l1, l2, l3, l4, l5, l6] [.int s0, .ref s1] h = sx_back S 92 2 [l0, l1, l2, l3, l4, l5, l6] [] (sx_Cl S 70 [.ref s1, .int s0] h)) ∧
  (∀ (ls : sx_L) (st : List Value) (v : Value) (h : sx_H), sx_back S 92 2 ls st (some (.inl (some v), h)) = sx_Ev S 92 5 ls (v :: st) h) ∧
  (∀ (ls : sx_L) (st : List Value) (e : Nat) (h : sx_H), sx_back S 92 2 ls st (some (.inr e, h)) = some (.inr e, h)) ∧
  (∀ (l0 l1 l2 l3 l4 l5 l6 : Option Value) (s0 : Nat) (h : sx_H), sx_Ev S 92 5 [l0, l1, l2, l3, l4, l5, l6] [.ref s0] h = sx_Ev S 92 7 [l0, l1, l2, l3, some (.ref s0), l5, l6] [] h) ∧
  (∀ (l1 l2 l3 l4 l5 l6 : Option Value) (x : Nat) (h : sx_H), sx_Ev S 92 7 [some (.ref x), l1, l2, l3, l4, l5, l6] [] h = sx_Ev S 92 8 [some (.ref x), l1, l2, l3, l4, l5, l6] [.ref x] h) ∧
  (∀ (l0 l1 l3 l4 l5 l6 : Option Value) (s0 : Nat) (x : Int32) (h : sx_H), sx_Ev S 92 8 [l0, l1, some (.int x), l3, l4, l5, l6] [.ref s0] h = sx_Ev S 92 9 [l0, l1, some (.int x), l3, l4, l5, l6] [.int x, .ref s0] h) ∧
  (∀ (l0 l1 l2 l3 l4 l5 l6 : Option Value) (s0 : Int32) (s1 : Nat) (h : sx_H), sx_klass h s1 = some 6 → sx_Ev S 92 9 [l0, l1, l2, l3, l4, l5, l6] [.int s0, .ref s1] h = sx_back S 92 9 [l0, l1, l2, l3, l4, l5, l6] [] (sx_Cl S 70 [.ref s1, .int s0] h)) ∧
  (∀ (ls : sx_L) (st : List Value) (v : Value) (h : sx_H), sx_back S 92 9 ls st (some (.inl (some v), h)) = sx_Ev S 92 12 ls (v :: st) h) ∧
  (∀ (ls : sx_L) (st : List Value) (e : Nat) (h : sx_H), sx_back S 92 9 ls st (some (.inr e, h)) = some (.inr e, h)) ∧
  (∀ (l0 l1 l2 l3 l4 l5 l6 : Option Value) (s0 : Nat) (h : sx_H), sx_Ev S 92 12 [l0, l1, l2, l3, l4, l5, l6] [.ref s0] h = sx_Ev S 92 14 [l0, l1, l2, l3, l4, some (.ref s0), l6] [] h) ∧
  (∀ (l1 l2 l3 l4 l5 l6 : Option Value) (x : Nat) (h : sx_H), sx_Ev S 92 14 [some (.ref x), l1, l2, l3, l4, l5, l6] [] h = sx_Ev S 92 15 [some (.ref x), l1, l2, l3, l4, l5, l6] [.ref x] h) ∧
  (∀ (l0 l1 l2 l4 l5 l6 : Option Value) (s0 : Nat) (x : Int32) (h : sx_H), sx_Ev S 92 15 [l0, l1, l2, some (.int x), l4, l5, l6] [.ref s0] h = sx_Ev S 92 16 [l0, l1, l2, some (.int x), l4, l5, l6] [.int x, .ref s0] h) ∧
  (∀ (l0 l1 l2 l3 l4 l5 l6 : Option Value) (s0 : Int32) (s1 : Nat) (h : sx_H), sx_klass h s1 = some 6 → sx_Ev S 92 16 [l0, l1, l2, l3, l4, l5, l6] [.int s0, .ref s1] h = sx_back S 92 16 [l0, l1, l2, l3, l4, l5, l6] [] (sx_Cl S 70 [.ref s1, .int s0] h)) ∧
  (∀ (ls : sx_L) (st : List Value) (v : Value) (h : sx_H), sx_back S 92 16 ls st (some (.inl (some v), h)) = sx_Ev S 92 19 ls (v :: st) h) ∧
  (∀ (ls : sx_L) (st : List Value) (e : Nat) (h : sx_H), sx_back S 92 16 ls st (some (.inr e, h)) = some (.inr e, h)) ∧
  (∀ (l0 l1 l2 l3 l4 l5 l6 : Option Value) (s0 : Nat) (h : sx_H), sx_Ev S 92 19 [l0, l1, l2, l3, l4, l5, l6] [.ref s0] h = sx_Ev S 92 21 [l0, l1, l2, l3, l4, l5, some (.ref s0)] [] h) ∧
  (∀ (l0 l1 l2 l3 l5 l6 : Option Value) (x : Nat) (h : sx_H), sx_Ev S 92 21 [l0, l1, l2, l3, some (.ref x), l5, l6] [] h = sx_Ev S 92 23 [l0, l1, l2, l3, some (.ref x), l5, l6] [.ref x] h) ∧
  (∀ (l0 l1 l2 l3 l4 l6 : Option Value) (s0 : Nat) (x : Nat) (h : sx_H), sx_Ev S 92 23 [l0, l1, l2, l3, l4, some (.ref x), l6] [.ref s0] h = sx_Ev S 92 25 [l0, l1, l2, l3, l4, some (.ref x), l6] [.ref x, .ref s0] h) ∧
  (∀ (l0 l1 l2 l3 l4 l5 l6 : Option Value) (s0 : Nat) (s1 : Nat) (h : sx_H), sx_klass h s1 = some 0 → sx_Ev S 92 25 [l0, l1, l2, l3, l4, l5, l6] [.ref s0, .ref s1] h = sx_back S 92 25 [l0, l1, l2, l3, l4, l5, l6] [] (sx_Cl S 24 [.ref s1, .ref s0] h)) ∧
  (∀ (ls : sx_L) (st : List Value) (v : Value) (h : sx_H), sx_back S 92 25 ls st (some (.inl (some v), h)) = sx_Ev S 92 28 ls (v :: st) h) ∧
  (∀ (ls : sx_L) (st : List Value) (e : Nat) (h : sx_H), sx_back S 92 25 ls st (some (.inr e, h)) = some (.inr e, h)) ∧
  (∀ (l0 l1 l2 l3 l4 l5 l6 : Option Value) (s0 : Int32) (h : sx_H), sx_Ev S 92 28 [l0, l1, l2, l3, l4, l5, l6] [.int s0] h = if s0 = 0 then sx_Ev S 92 41 [l0, l1, l2, l3, l4, l5, l6] [] h else sx_Ev S 92 31 [l0, l1, l2, l3, l4, l5, l6] [] h) ∧
  (∀ (l0 l1 l2 l3 l5 l6 : Option Value) (x : Nat) (h : sx_H), sx_Ev S 92 31 [l0, l1, l2, l3, some (.ref x), l5, l6] [] h = sx_Ev S 92 33 [l0, l1, l2, l3, some (.ref x), l5, l6] [.ref x] h) ∧
  (∀ (l0 l1 l2 l3 l4 l5 : Option Value) (s0 : Nat) (x : Nat) (h : sx_H), sx_Ev S 92 33 [l0, l1, l2, l3, l4, l5, some (.ref x)] [.ref s0] h = sx_Ev S 92 35 [l0, l1, l2, l3, l4, l5, some (.ref x)] [.ref x, .ref s0] h) ∧
  (∀ (l0 l1 l2 l3 l4 l5 l6 : Option Value) (s0 : Nat) (s1 : Nat) (h : sx_H), sx_klass h s1 = some 0 → sx_Ev S 92 35 [l0, l1, l2, l3, l4, l5, l6] [.ref s0, .ref s1] h = sx_back S 92 35 [l0, l1, l2, l3, l4, l5, l6] [] (sx_Cl S 24 [.ref s1, .ref s0] h)) ∧
  (∀ (ls : sx_L) (st : List Value) (v : Value) (h : sx_H), sx_back S 92 35 ls st (some (.inl (some v), h)) = sx_Ev S 92 38 ls (v :: st) h) ∧
  (∀ (ls : sx_L) (st : List Value) (e : Nat) (h : sx_H), sx_back S 92 35 ls st (some (.inr e, h)) = some (.inr e, h)) ∧
  (∀ (l0 l1 l2 l3 l4 l5 l6 : Option Value) (s0 : Int32) (h : sx_H), sx_Ev S 92 38 [l0, l1, l2, l3, l4, l5, l6] [.int s0] h = if s0 = 0 then sx_Ev S 92 41 [l0, l1, l2, l3, l4, l5, l6] [] h else sx_Ev S 92 52 [l0, l1, l2, l3, l4, l5, l6] [] h) ∧
  (∀ (l0 l1 l2 l3 l4 l5 l6 : Option Value) (h : sx_H), sx_Ev S 92 41 [l0, l1, l2, l3, l4, l5, l6] [] h = some (.inr 3, sx_push h none 6)) ∧
  (∀ (l0 l1 l2 l3 l5 l6 : Option Value) (x : Nat) (h : sx_H), sx_Ev S 92 52 [l0, l1, l2, l3, some (.ref x), l5, l6] [] h = sx_Ev S 92 54 [l0, l1, l2, l3, some (.ref x), l5, l6] [.ref x] h) ∧
  (∀ (l0 l1 l2 l3 l4 l6 : Option Value) (s0 : Nat) (x : Nat) (h : sx_H), sx_Ev S 92 54 [l0, l1, l2, l3, l4, some (.ref x), l6] [.ref s0] h = sx_Ev S 92 56 [l0, l1, l2, l3, l4, some (.ref x), l6] [.ref x, .ref s0] h) ∧
  (∀ (l0 l1 l2 l3 l4 l5 : Option Value) (s0 : Nat) (s1 : Nat) (x : Nat) (h : sx_H), sx_Ev S 92 56 [l0, l1, l2, l3, l4, l5, some (.ref x)] [.ref s0, .ref s1] h = sx_Ev S 92 58 [l0, l1, l2, l3, l4, l5, some (.ref x)] [.ref x, .ref s0, .ref s1] h) ∧
  (∀ (l0 l1 l2 l3 l4 l5 l6 : Option Value) (s0 : Nat) (s1 : Nat) (s2 : Nat) (h : sx_H), sx_Ev S 92 58 [l0, l1, l2, l3, l4, l5, l6] [.ref s0, .ref s1, .ref s2] h = sx_back S 92 58 [l0, l1, l2, l3, l4, l5, l6] [] (sx_Cl S 10 [.ref s2, .ref s1, .ref s0] h)) ∧
  (∀ (ls : sx_L) (st : List Value) (v : Value) (h : sx_H), sx_back S 92 58 ls st (some (.inl (some v), h)) = sx_Ev S 92 61 ls (v :: st) h) ∧
  (∀ (ls : sx_L) (st : List Value) (e : Nat) (h : sx_H), sx_back S 92 58 ls st (some (.inr e, h)) = some (.inr e, h)) ∧
  (∀ (l0 l1 l2 l3 l4 l5 l6 : Option Value) (s0 : Int32) (h : sx_H), sx_Ev S 92 61 [l0, l1, l2, l3, l4, l5, l6] [.int s0] h = some (.inl (some (.int s0)), h)) := ⟨fun _ _ _ _ _ _ _ _ => sx_e_nx rfl rfl,
  fun _ _ _ _ _ _ _ _ _ => sx_e_nx rfl rfl,
  fun _ _ _ _ _ _ _ _ _ _ hv => sx_e_virt rfl rfl ⟨Nat.le_of_ble_eq_true rfl, Nat.le_of_ble_eq_true rfl, rfl⟩ rfl rfl rfl hv,
  fun _ _ _ _ => rfl,
  fun _ _ _ _ => rfl,
  fun _ _ _ _ _ _ _ _ _ => sx_e_nx rfl rfl,
  fun _ _ _ _ _ _ _ _ => sx_e_nx rfl rfl,
  fun _ _ _ _ _ _ _ _ _ => sx_e_nx rfl rfl,
  fun _ _ _ _ _ _ _ _ _ _ hv => sx_e_virt rfl rfl ⟨Nat.le_of_ble_eq_true rfl, Nat.le_of_ble_eq_true rfl, rfl⟩ rfl rfl rfl hv,
  fun _ _ _ _ => rfl,
  fun _ _ _ _ => rfl,
  fun _ _ _ _ _ _ _ _ _ => sx_e_nx rfl rfl,
  fun _ _ _ _ _ _ _ _ => sx_e_nx rfl rfl,
  fun _ _ _ _ _ _ _ _ _ => sx_e_nx rfl rfl,
  fun _ _ _ _ _ _ _ _ _ _ hv => sx_e_virt rfl rfl ⟨Nat.le_of_ble_eq_true rfl, Nat.le_of_ble_eq_true rfl, rfl⟩ rfl rfl rfl hv,
  fun _ _ _ _ => rfl,
  fun _ _ _ _ => rfl,
  fun _ _ _ _ _ _ _ _ _ => sx_e_nx rfl rfl,
  fun _ _ _ _ _ _ _ _ => sx_e_nx rfl rfl,
  fun _ _ _ _ _ _ _ _ _ => sx_e_nx rfl rfl,
  fun _ _ _ _ _ _ _ _ _ _ hv => sx_e_virt rfl rfl ⟨Nat.le_of_ble_eq_true rfl, Nat.le_of_ble_eq_true rfl, rfl⟩ rfl rfl rfl hv,
  fun _ _ _ _ => rfl,
  fun _ _ _ _ => rfl,
  fun _ _ _ _ _ _ _ _ _ => sx_e_eq rfl (by decide) rfl,
  fun _ _ _ _ _ _ _ _ => sx_e_nx rfl rfl,
  fun _ _ _ _ _ _ _ _ _ => sx_e_nx rfl rfl,
  fun _ _ _ _ _ _ _ _ _ _ hv => sx_e_virt rfl rfl ⟨Nat.le_of_ble_eq_true rfl, Nat.le_of_ble_eq_true rfl, rfl⟩ rfl rfl rfl hv,
  fun _ _ _ _ => rfl,
  fun _ _ _ _ => rfl,
  fun _ _ _ _ _ _ _ _ _ => sx_e_ne rfl (by decide) rfl,
  fun _ _ _ _ _ _ _ _ => sx_e_dn rfl rfl,
  fun _ _ _ _ _ _ _ _ => sx_e_nx rfl rfl,
  fun _ _ _ _ _ _ _ _ _ => sx_e_nx rfl rfl,
  fun _ _ _ _ _ _ _ _ _ _ => sx_e_nx rfl rfl,
  fun _ _ _ _ _ _ _ _ _ _ _ => sx_e_ca rfl rfl,
  fun _ _ _ _ => rfl,
  fun _ _ _ _ => rfl,
  fun _ _ _ _ _ _ _ _ _ => sx_e_ret rfl rfl rfl⟩
/-- 93: X10_guess (IIII)I -/
theorem c93_q (S : List Int32) : ∀ (a0 : Nat) (a1 : Int32) (a2 : Int32) (a3 : Int32) (a4 : Int32) (h : sx_H), sx_Cl S 93 [.ref a0, .int a1, .int a2, .int a3, .int a4] h = sx_Ev S 93 0 [some (.ref a0), some (.int a1), some (.int a2), some (.int a3), some (.int a4), none, none] [] h := fun _ _ _ _ _ _ => rfl
theorem q93 (S : List Int32) : (∀ (l1 l2 l3 l4 l5 l6 : Option Value) (x : Nat) (h : sx_H), sx_Ev S 93 0 [some (.ref x), l1, l2, l3, l4, l5, l6] [] h = sx_Ev S 93 1 [some (.ref x), l1, l2, l3, l4, l5, l6] [.ref x] h) ∧
  (∀ (l0 l2 l3 l4 l5 l6 : Option Value) (s0 : Nat) (x : Int32) (h : sx_H), sx_Ev S 93 1 [l0, some (.int x), l2, l3, l4, l5, l6] [.ref s0] h = sx_Ev S 93 2 [l0, some (.int x), l2, l3, l4, l5, l6] [.int x, .ref s0] h) ∧
  (∀ (l0 l1 l2 l3 l4 l5 l6 : Option Value) (s0 : Int32) (s1 : Nat) (h : sx_H), sx_klass h s1 = some 6 → sx_Ev S 93 2 [l0, l1, l2, l3, l4, l5, l6] [.int s0, .ref s1] h = sx_back S 93 2 [l0, l1, l2, l3, l4, l5, l6] [] (sx_Cl S 70 [.ref s1, .int s0] h)) ∧
  (∀ (ls : sx_L) (st : List Value) (v : Value) (h : sx_H), sx_back S 93 2 ls st (some (.inl (some v), h)) = sx_Ev S 93 5 ls (v :: st) h) ∧
  (∀ (ls : sx_L) (st : List Value) (e : Nat) (h : sx_H), sx_back S 93 2 ls st (some (.inr e, h)) = some (.inr e, h)) ∧
  (∀ (l0 l1 l2 l3 l4 l5 l6 : Option Value) (s0 : Nat) (h : sx_H), sx_Ev S 93 5 [l0, l1, l2, l3, l4, l5, l6] [.ref s0] h = sx_Ev S 93 7 [l0, l1, l2, l3, l4, some (.ref s0), l6] [] h) ∧
  (∀ (l0 l1 l2 l3 l4 l6 : Option Value) (x : Nat) (h : sx_H), sx_Ev S 93 7 [l0, l1, l2, l3, l4, some (.ref x), l6] [] h = sx_Ev S 93 9 [l0, l1, l2, l3, l4, some (.ref x), l6] [.ref x] h) ∧
  (∀ (l0 l1 l3 l4 l5 l6 : Option Value) (s0 : Nat) (x : Int32) (h : sx_H), sx_Ev S 93 9 [l0, l1, some (.int x), l3, l4, l5, l6] [.ref s0] h = sx_Ev S 93 10 [l0, l1, some (.int x), l3, l4, l5, l6] [.int x, .ref s0] h) ∧
  (∀ (l0 l1 l2 l4 l5 l6 : Option Value) (s0 : Int32) (s1 : Nat) (x : Int32) (h : sx_H), sx_Ev S 93 10 [l0, l1, l2, some (.int x), l4, l5, l6] [.int s0, .ref s1] h = sx_Ev S 93 11 [l0, l1, l2, some (.int x), l4, l5, l6] [.int x, .int s0, .ref s1] h) ∧
  (∀ (l0 l1 l2 l3 l4 l5 l6 : Option Value) (s0 : Int32) (s1 : Int32) (s2 : Nat) (h : sx_H), sx_Ev S 93 11 [l0, l1, l2, l3, l4, l5, l6] [.int s0, .int s1, .ref s2] h = sx_back S 93 11 [l0, l1, l2, l3, l4, l5, l6] [] (sx_Cl S 71 [.ref s2, .int s1, .int s0] h)) ∧
  (∀ (ls : sx_L) (st : List Value) (h : sx_H), sx_back S 93 11 ls st (some (.inl none, h)) = sx_Ev S 93 14 ls st h) ∧
  (∀ (ls : sx_L) (st : List Value) (e : Nat) (h : sx_H), sx_back S 93 11 ls st (some (.inr e, h)) = some (.inr e, h)) ∧
  (∀ (l0 l1 l2 l3 l5 l6 : Option Value) (x : Int32) (h : sx_H), sx_Ev S 93 14 [l0, l1, l2, l3, some (.int x), l5, l6] [] h = sx_Ev S 93 16 [l0, l1, l2, l3, some (.int x), l5, l6] [.int x] h) ∧
  (∀ (l0 l1 l2 l3 l4 l5 l6 : Option Value) (s0 : Int32) (h : sx_H), sx_Ev S 93 16 [l0, l1, l2, l3, l4, l5, l6] [.int s0] h = sx_Ev S 93 17 [l0, l1, l2, l3, l4, l5, l6] [.int (sz (1)), .int s0] h) ∧
  (∀ (l0 l1 l2 l3 l4 l5 l6 : Option Value) (s0 : Int32) (s1 : Int32) (h : sx_H), sx_Ev S 93 17 [l0, l1, l2, l3, l4, l5, l6] [.int s0, .int s1] h = sx_Ev S 93 19 [l0, l1, l2, l3, l4, l5, l6] [.int (sz (12)), .int s0, .int s1] h) ∧
  (∀ (l0 l1 l2 l3 l4 l5 l6 : Option Value) (s0 : Int32) (s1 : Int32) (s2 : Int32) (h : sx_H), sx_Ev S 93 19 [l0, l1, l2, l3, l4, l5, l6] [.int s0, .int s1, .int s2] h = sx_back S 93 19 [l0, l1, l2, l3, l4, l5, l6] [] (sx_Cl S 66 [.int s2, .int s1, .int s0] h)) ∧
  (∀ (ls : sx_L) (st : List Value) (h : sx_H), sx_back S 93 19 ls st (some (.inl none, h)) = sx_Ev S 93 22 ls st h) ∧
  (∀ (ls : sx_L) (st : List Value) (e : Nat) (h : sx_H), sx_back S 93 19 ls st (some (.inr e, h)) = some (.inr e, h)) ∧
  (∀ (l0 l1 l2 l3 l4 l6 : Option Value) (x : Nat) (h : sx_H), sx_Ev S 93 22 [l0, l1, l2, l3, l4, some (.ref x), l6] [] h = sx_Ev S 93 24 [l0, l1, l2, l3, l4, some (.ref x), l6] [.ref x] h) ∧
  (∀ (l0 l1 l3 l4 l5 l6 : Option Value) (s0 : Nat) (x : Int32) (h : sx_H), sx_Ev S 93 24 [l0, l1, some (.int x), l3, l4, l5, l6] [.ref s0] h = sx_Ev S 93 25 [l0, l1, some (.int x), l3, l4, l5, l6] [.int x, .ref s0] h) ∧
  (∀ (l0 l1 l2 l4 l5 l6 : Option Value) (s0 : Int32) (s1 : Nat) (x : Int32) (h : sx_H), sx_Ev S 93 25 [l0, l1, l2, some (.int x), l4, l5, l6] [.int s0, .ref s1] h = sx_Ev S 93 26 [l0, l1, l2, some (.int x), l4, l5, l6] [.int x, .int s0, .ref s1] h) ∧
  (∀ (l0 l1 l2 l3 l5 l6 : Option Value) (s0 : Int32) (s1 : Int32) (s2 : Nat) (x : Int32) (h : sx_H), sx_Ev S 93 26 [l0, l1, l2, l3, some (.int x), l5, l6] [.int s0, .int s1, .ref s2] h = sx_Ev S 93 28 [l0, l1, l2, l3, some (.int x), l5, l6] [.int x, .int s0, .int s1, .ref s2] h) ∧
  (∀ (l0 l1 l2 l3 l4 l5 l6 : Option Value) (s0 : Int32) (s1 : Int32) (s2 : Int32) (s3 : Nat) (h : sx_H), sx_Ev S 93 28 [l0, l1, l2, l3, l4, l5, l6] [.int s0, .int s1, .int s2, .ref s3] h = sx_back S 93 28 [l0, l1, l2, l3, l4, l5, l6] [] (sx_Cl S 12 [.ref s3, .int s2, .int s1, .int s0] h)) ∧
  (∀ (ls : sx_L) (st : List Value) (v : Value) (h : sx_H), sx_back S 93 28 ls st (some (.inl (some v), h)) = sx_Ev S 93 31 ls (v :: st) h) ∧
  (∀ (ls : sx_L) (st : List Value) (e : Nat) (h : sx_H), sx_back S 93 28 ls st (some (.inr e, h)) = some (.inr e, h)) ∧
  (∀ (l0 l1 l2 l3 l4 l5 l6 : Option Value) (s0 : Int32) (h : sx_H), sx_Ev S 93 31 [l0, l1, l2, l3, l4, l5, l6] [.int s0] h = sx_Ev S 93 33 [l0, l1, l2, l3, l4, l5, some (.int s0)] [] h) ∧
  (∀ (l0 l1 l2 l3 l4 l5 : Option Value) (x : Int32) (h : sx_H), sx_Ev S 93 33 [l0, l1, l2, l3, l4, l5, some (.int x)] [] h = sx_Ev S 93 35 [l0, l1, l2, l3, l4, l5, some (.int x)] [.int x] h) ∧
  (∀ (l0 l1 l2 l3 l4 l5 l6 : Option Value) (s0 : Int32) (h : sx_H), sx_Ev S 93 35 [l0, l1, l2, l3, l4, l5, l6] [.int s0] h = sx_Ev S 93 36 [l0, l1, l2, l3, l4, l5, l6] [.int (sz (-1)), .int s0] h) ∧
  (∀ (l0 l1 l2 l3 l4 l5 l6 : Option Value) (s0 : Int32) (s1 : Int32) (h : sx_H), sx_Ev S 93 36 [l0, l1, l2, l3, l4, l5, l6] [.int s0, .int s1] h = if s1 = s0 then sx_Ev S 93 39 [l0, l1, l2, l3, l4, l5, l6] [] h else sx_Ev S 93 50 [l0, l1, l2, l3, l4, l5, l6] [] h) ∧
  (∀ (l0 l1 l2 l3 l4 l5 l6 : Option Value) (h : sx_H), sx_Ev S 93 39 [l0, l1, l2, l3, l4, l5, l6] [] h = some (.inr 4, sx_push h none 6)) ∧
  (∀ (l0 l1 l2 l3 l4 l5 : Option Value) (x : Int32) (h : sx_H), sx_Ev S 93 50 [l0, l1, l2, l3, l4, l5, some (.int x)] [] h = sx_Ev S 93 52 [l0, l1, l2, l3, l4, l5, some (.int x)] [.int x] h) ∧
  (∀ (l0 l1 l2 l3 l4 l5 l6 : Option Value) (s0 : Int32) (h : sx_H), sx_Ev S 93 52 [l0, l1, l2, l3, l4, l5, l6] [.int s0] h = some (.inl (some (.int s0)), h)) := ⟨fun _ _ _ _ _ _ _ _ => sx_e_nx rfl rfl,
  fun _ _ _ _ _ _ _ _ _ => sx_e_nx rfl rfl,
  fun _ _ _ _ _ _ _ _ _ _ hv => sx_e_virt rfl rfl ⟨Nat.le_of_ble_eq_true rfl, Nat.le_of_ble_eq_true rfl, rfl⟩ rfl rfl rfl hv,
  fun _ _ _ _ => rfl,
  fun _ _ _ _ => rfl,
  fun _ _ _ _ _ _ _ _ _ => sx_e_nx rfl rfl,
  fun _ _ _ _ _ _ _ _ => sx_e_nx rfl rfl,
  fun _ _ _ _ _ _ _ _ _ => sx_e_nx rfl rfl,
  fun _ _ _ _ _ _ _ _ _ _ => sx_e_nx rfl rfl,
  fun _ _ _ _ _ _ _ _ _ _ _ => sx_e_ca rfl rfl,
  fun _ _ _ => rfl,
  fun _ _ _ _ => rfl,
  fun _ _ _ _ _ _ _ _ => sx_e_nx rfl rfl,
  fun _ _ _ _ _ _ _ _ _ => sx_e_nx rfl rfl,
  fun _ _ _ _ _ _ _ _ _ _ => sx_e_bi rfl (by decide +kernel) rfl,
  fun _ _ _ _ _ _ _ _ _ _ _ => sx_e_ca rfl rfl,
  fun _ _ _ => rfl,
  fun _ _ _ _ => rfl,
  fun _ _ _ _ _ _ _ _ => sx_e_nx rfl rfl,
  fun _ _ _ _ _ _ _ _ _ => sx_e_nx rfl rfl,
  fun _ _ _ _ _ _ _ _ _ _ => sx_e_nx rfl rfl,
  fun _ _ _ _ _ _ _ _ _ _ _ => sx_e_nx rfl rfl,
  fun _ _ _ _ _ _ _ _ _ _ _ _ => sx_e_ca rfl rfl,
  fun _ _ _ _ => rfl,
  fun _ _ _ _ => rfl,
  fun _ _ _ _ _ _ _ _ _ => sx_e_nx rfl rfl,
  fun _ _ _ _ _ _ _ _ => sx_e_nx rfl rfl,
  fun _ _ _ _ _ _ _ _ _ => sx_e_nx rfl rfl,
  fun _ _ _ _ _ _ _ _ _ _ => sx_e_ine rfl (by decide) rfl,
  fun _ _ _ _ _ _ _ _ => sx_e_dn rfl rfl,
  fun _ _ _ _ _ _ _ _ => sx_e_nx rfl rfl,
  fun _ _ _ _ _ _ _ _ _ => sx_e_ret rfl rfl rfl⟩
/-- 94: X10_beadsInCloths (C)I -/
theorem c94_q (S : List Int32) : ∀ (a0 : Nat) (a1 : Int32) (h : sx_H), sx_Cl S 94 [.ref a0, .int a1] h = sx_Ev S 94 0 [some (.ref a0), some (.int a1), none, none, none] [] h := fun _ _ _ => rfl
theorem h94_4 (S : List Int32) : (∀ (l0 l1 l2 l4 : Option Value) (x : Int32) (h : sx_H), sx_Ev S 94 4 [l0, l1, l2, some (.int x), l4] [] h = sx_Ev S 94 5 [l0, l1, l2, some (.int x), l4] [.int x] h) := fun _ _ _ _ _ _ => sx_e_nx rfl rfl
theorem q94 (S : List Int32) : (∀ (l0 l1 l2 l3 l4 : Option Value) (h : sx_H), sx_Ev S 94 0 [l0, l1, l2, l3, l4] [] h = sx_Ev S 94 1 [l0, l1, l2, l3, l4] [.int (sz (0))] h) ∧
  (∀ (l0 l1 l2 l3 l4 : Option Value) (s0 : Int32) (h : sx_H), sx_Ev S 94 1 [l0, l1, l2, l3, l4] [.int s0] h = sx_Ev S 94 2 [l0, l1, some (.int s0), l3, l4] [] h) ∧
  (∀ (l0 l1 l2 l3 l4 : Option Value) (h : sx_H), sx_Ev S 94 2 [l0, l1, l2, l3, l4] [] h = sx_Ev S 94 3 [l0, l1, l2, l3, l4] [.int (sz (0))] h) ∧
  (∀ (l0 l1 l2 l3 l4 : Option Value) (s0 : Int32) (h : sx_H), sx_Ev S 94 3 [l0, l1, l2, l3, l4] [.int s0] h = sx_Ev S 94 4 [l0, l1, l2, some (.int s0), l4] [] h) ∧
  (∀ (l1 l2 l3 l4 : Option Value) (s0 : Int32) (x : Nat) (h : sx_H), sx_Ev S 94 5 [some (.ref x), l1, l2, l3, l4] [.int s0] h = sx_Ev S 94 6 [some (.ref x), l1, l2, l3, l4] [.ref x, .int s0] h) ∧
  (∀ (l0 l1 l2 l3 l4 : Option Value) (s0 : Nat) (s1 : Int32) (h : sx_H), sx_Ev S 94 6 [l0, l1, l2, l3, l4] [.ref s0, .int s1] h = (sx_fld h s0 6 6).bind fun v => sx_Ev S 94 9 [l0, l1, l2, l3, l4] [v, .int s1] h) ∧
  (∀ (l0 l1 l2 l3 l4 : Option Value) (s0 : Int32) (s1 : Int32) (h : sx_H), sx_Ev S 94 9 [l0, l1, l2, l3, l4] [.int s0, .int s1] h = if s1 < s0 then sx_Ev S 94 12 [l0, l1, l2, l3, l4] [] h else sx_Ev S 94 49 [l0, l1, l2, l3, l4] [] h) ∧
  (∀ (l1 l2 l3 l4 : Option Value) (x : Nat) (h : sx_H), sx_Ev S 94 12 [some (.ref x), l1, l2, l3, l4] [] h = sx_Ev S 94 13 [some (.ref x), l1, l2, l3, l4] [.ref x] h) ∧
  (∀ (l0 l1 l2 l4 : Option Value) (s0 : Nat) (x : Int32) (h : sx_H), sx_Ev S 94 13 [l0, l1, l2, some (.int x), l4] [.ref s0] h = sx_Ev S 94 14 [l0, l1, l2, some (.int x), l4] [.int x, .ref s0] h) ∧
  (∀ (l0 l1 l2 l3 l4 : Option Value) (s0 : Int32) (s1 : Nat) (h : sx_H), sx_klass h s1 = some 6 → sx_Ev S 94 14 [l0, l1, l2, l3, l4] [.int s0, .ref s1] h = sx_back S 94 14 [l0, l1, l2, l3, l4] [] (sx_Cl S 70 [.ref s1, .int s0] h)) ∧
  (∀ (ls : sx_L) (st : List Value) (v : Value) (h : sx_H), sx_back S 94 14 ls st (some (.inl (some v), h)) = sx_Ev S 94 17 ls (v :: st) h) ∧
  (∀ (ls : sx_L) (st : List Value) (e : Nat) (h : sx_H), sx_back S 94 14 ls st (some (.inr e, h)) = some (.inr e, h)) ∧
  (∀ (l0 l1 l2 l3 l4 : Option Value) (s0 : Nat) (h : sx_H), sx_Ev S 94 17 [l0, l1, l2, l3, l4] [.ref s0] h = sx_Ev S 94 19 [l0, l1, l2, l3, some (.ref s0)] [] h) ∧
  (∀ (l0 l1 l2 l3 : Option Value) (x : Nat) (h : sx_H), sx_Ev S 94 19 [l0, l1, l2, l3, some (.ref x)] [] h = sx_Ev S 94 21 [l0, l1, l2, l3, some (.ref x)] [.ref x] h) ∧
  (∀ (l0 l1 l2 l3 l4 : Option Value) (s0 : Nat) (h : sx_H), sx_Ev S 94 21 [l0, l1, l2, l3, l4] [.ref s0] h = (sx_fld h s0 0 9).bind fun v => sx_Ev S 94 24 [l0, l1, l2, l3, l4] [v] h) ∧
  (∀ (l0 l2 l3 l4 : Option Value) (s0 : Int32) (x : Int32) (h : sx_H), sx_Ev S 94 24 [l0, some (.int x), l2, l3, l4] [.int s0] h = sx_Ev S 94 25 [l0, some (.int x), l2, l3, l4] [.int x, .int s0] h) ∧
  (∀ (l0 l1 l2 l3 l4 : Option Value) (s0 : Int32) (s1 : Int32) (h : sx_H), sx_Ev S 94 25 [l0, l1, l2, l3, l4] [.int s0, .int s1] h = if s1 = s0 then sx_Ev S 94 28 [l0, l1, l2, l3, l4] [] h else sx_Ev S 94 43 [l0, l1, l2, l3, l4] [] h) ∧
  (∀ (l0 l1 l3 l4 : Option Value) (x : Int32) (h : sx_H), sx_Ev S 94 28 [l0, l1, some (.int x), l3, l4] [] h = sx_Ev S 94 29 [l0, l1, some (.int x), l3, l4] [.int x] h) ∧
  (∀ (l0 l1 l2 l3 : Option Value) (s0 : Int32) (x : Nat) (h : sx_H), sx_Ev S 94 29 [l0, l1, l2, l3, some (.ref x)] [.int s0] h = sx_Ev S 94 31 [l0, l1, l2, l3, some (.ref x)] [.ref x, .int s0] h) ∧
  (∀ (l0 l1 l2 l3 l4 : Option Value) (s0 : Nat) (s1 : Int32) (h : sx_H), sx_klass h s0 = some 0 → sx_Ev S 94 31 [l0, l1, l2, l3, l4] [.ref s0, .int s1] h = sx_back S 94 31 [l0, l1, l2, l3, l4] [.int s1] (sx_Cl S 8 [.ref s0] h)) ∧
  (∀ (ls : sx_L) (st : List Value) (v : Value) (h : sx_H), sx_back S 94 31 ls st (some (.inl (some v), h)) = sx_Ev S 94 34 ls (v :: st) h) ∧
  (∀ (ls : sx_L) (st : List Value) (e : Nat) (h : sx_H), sx_back S 94 31 ls st (some (.inr e, h)) = some (.inr e, h)) ∧
  (∀ (l0 l1 l2 l3 : Option Value) (s0 : Int32) (s1 : Int32) (x : Nat) (h : sx_H), sx_Ev S 94 34 [l0, l1, l2, l3, some (.ref x)] [.int s0, .int s1] h = sx_Ev S 94 36 [l0, l1, l2, l3, some (.ref x)] [.ref x, .int s0, .int s1] h) ∧
  (∀ (l0 l1 l2 l3 l4 : Option Value) (s0 : Nat) (s1 : Int32) (s2 : Int32) (h : sx_H), sx_Ev S 94 36 [l0, l1, l2, l3, l4] [.ref s0, .int s1, .int s2] h = sx_Ev S 94 37 [l0, l1, l2, l3, l4] [.int (sz (-1)), .ref s0, .int s1, .int s2] h) ∧
  (∀ (l0 l1 l2 l3 l4 : Option Value) (s0 : Int32) (s1 : Nat) (s2 : Int32) (s3 : Int32) (h : sx_H), sx_klass h s1 = some 0 → sx_Ev S 94 37 [l0, l1, l2, l3, l4] [.int s0, .ref s1, .int s2, .int s3] h = sx_back S 94 37 [l0, l1, l2, l3, l4] [.int s2, .int s3] (sx_Cl S 31 [.ref s1, .int s0] h)) ∧
  (∀ (ls : sx_L) (st : List Value) (v : Value) (h : sx_H), sx_back S 94 37 ls st (some (.inl (some v), h)) = sx_Ev S 94 40 ls (v :: st) h) ∧
  (∀ (ls : sx_L) (st : List Value) (e : Nat) (h : sx_H), sx_back S 94 37 ls st (some (.inr e, h)) = some (.inr e, h)) ∧
  (∀ (l0 l1 l2 l3 l4 : Option Value) (s0 : Int32) (s1 : Int32) (s2 : Int32) (h : sx_H), sx_Ev S 94 40 [l0, l1, l2, l3, l4] [.int s0, .int s1, .int s2] h = sx_Ev S 94 41 [l0, l1, l2, l3, l4] [.int (s1 - s0), .int s2] h) ∧
  (∀ (l0 l1 l2 l3 l4 : Option Value) (s0 : Int32) (s1 : Int32) (h : sx_H), sx_Ev S 94 41 [l0, l1, l2, l3, l4] [.int s0, .int s1] h = sx_Ev S 94 42 [l0, l1, l2, l3, l4] [.int (s1 + s0)] h) ∧
  (∀ (l0 l1 l2 l3 l4 : Option Value) (s0 : Int32) (h : sx_H), sx_Ev S 94 42 [l0, l1, l2, l3, l4] [.int s0] h = sx_Ev S 94 43 [l0, l1, some (.int s0), l3, l4] [] h) ∧
  (∀ (l0 l1 l2 l4 : Option Value) (x : Int32) (h : sx_H), sx_Ev S 94 43 [l0, l1, l2, some (.int x), l4] [] h = sx_Ev S 94 46 [l0, l1, l2, some (.int (x + sz (1))), l4] [] h) ∧
  (∀ (l0 l1 l2 l3 l4 : Option Value) (h : sx_H), sx_Ev S 94 46 [l0, l1, l2, l3, l4] [] h = sx_Ev S 94 4 [l0, l1, l2, l3, l4] [] h) ∧
  (∀ (l0 l1 l3 l4 : Option Value) (x : Int32) (h : sx_H), sx_Ev S 94 49 [l0, l1, some (.int x), l3, l4] [] h = sx_Ev S 94 50 [l0, l1, some (.int x), l3, l4] [.int x] h) ∧
  (∀ (l0 l1 l2 l3 l4 : Option Value) (s0 : Int32) (h : sx_H), sx_Ev S 94 50 [l0, l1, l2, l3, l4] [.int s0] h = some (.inl (some (.int s0)), h)) := ⟨fun _ _ _ _ _ _ => sx_e_nx rfl rfl,
  fun _ _ _ _ _ _ _ => sx_e_nx rfl rfl,
  fun _ _ _ _ _ _ => sx_e_nx rfl rfl,
  fun _ _ _ _ _ _ _ => sx_e_nx rfl rfl,
  fun _ _ _ _ _ _ _ => sx_e_nx rfl rfl,
  fun _ _ _ _ _ _ _ _ => sx_e_getf rfl rfl (by decide) rfl,
  fun _ _ _ _ _ _ _ _ => sx_e_ige rfl (by decide) rfl,
  fun _ _ _ _ _ _ => sx_e_nx rfl rfl,
  fun _ _ _ _ _ _ _ => sx_e_nx rfl rfl,
  fun _ _ _ _ _ _ _ _ hv => sx_e_virt rfl rfl ⟨Nat.le_of_ble_eq_true rfl, Nat.le_of_ble_eq_true rfl, rfl⟩ rfl rfl rfl hv,
  fun _ _ _ _ => rfl,
  fun _ _ _ _ => rfl,
  fun _ _ _ _ _ _ _ => sx_e_nx rfl rfl,
  fun _ _ _ _ _ _ => sx_e_nx rfl rfl,
  fun _ _ _ _ _ _ _ => sx_e_getf rfl rfl (by decide) rfl,
  fun _ _ _ _ _ _ _ => sx_e_nx rfl rfl,
  fun _ _ _ _ _ _ _ _ => sx_e_ine rfl (by decide) rfl,
  fun _ _ _ _ _ _ => sx_e_nx rfl rfl,
  fun _ _ _ _ _ _ _ => sx_e_nx rfl rfl,
  fun _ _ _ _ _ _ _ _ hv => sx_e_virt rfl rfl ⟨Nat.le_of_ble_eq_true rfl, Nat.le_of_ble_eq_true rfl, rfl⟩ rfl rfl rfl hv,
  fun _ _ _ _ => rfl,
  fun _ _ _ _ => rfl,
  fun _ _ _ _ _ _ _ _ => sx_e_nx rfl rfl,
  fun _ _ _ _ _ _ _ _ _ => sx_e_nx rfl rfl,
  fun _ _ _ _ _ _ _ _ _ _ hv => sx_e_virt rfl rfl ⟨Nat.le_of_ble_eq_true rfl, Nat.le_of_ble_eq_true rfl, rfl⟩ rfl rfl rfl hv,
  fun _ _ _ _ => rfl,
  fun _ _ _ _ => rfl,
  fun _ _ _ _ _ _ _ _ _ => sx_e_nx rfl rfl,
  fun _ _ _ _ _ _ _ _ => sx_e_nx rfl rfl,
  fun _ _ _ _ _ _ _ => sx_e_nx rfl rfl,
  fun _ _ _ _ _ _ => sx_e_nx rfl rfl,
  fun _ _ _ _ _ _ => sx_e_goto rfl (by decide),
  fun _ _ _ _ _ _ => sx_e_nx rfl rfl,
  fun _ _ _ _ _ _ _ => sx_e_ret rfl rfl rfl⟩
/-- 95: X10_isSound ()Z -/
theorem c95_q (S : List Int32) : ∀ (a0 : Nat) (h : sx_H), sx_Cl S 95 [.ref a0] h = sx_Ev S 95 0 [some (.ref a0), none, none] [] h := fun _ _ => rfl
theorem h95_54 (S : List Int32) : (∀ (l0 l1 : Option Value) (x : Int32) (h : sx_H), sx_Ev S 95 54 [l0, l1, some (.int x)] [] h = sx_Ev S 95 55 [l0, l1, some (.int x)] [.int x] h) := fun _ _ _ _ => sx_e_nx rfl rfl
theorem q95 (S : List Int32) : (∀ (l1 l2 : Option Value) (x : Nat) (h : sx_H), sx_Ev S 95 0 [some (.ref x), l1, l2] [] h = sx_Ev S 95 1 [some (.ref x), l1, l2] [.ref x] h) ∧
  (∀ (l0 l1 l2 : Option Value) (s0 : Nat) (h : sx_H), sx_Ev S 95 1 [l0, l1, l2] [.ref s0] h = (sx_fld h s0 6 0).bind fun v => sx_Ev S 95 4 [l0, l1, l2] [v] h) ∧
  (∀ (l0 l1 l2 : Option Value) (s0 : Nat) (h : sx_H), sx_klass h s0 = some 2 → sx_Ev S 95 4 [l0, l1, l2] [.ref s0] h = sx_back S 95 4 [l0, l1, l2] [] (sx_Cl S 57 [.ref s0] h)) ∧
  (∀ (ls : sx_L) (st : List Value) (v : Value) (h : sx_H), sx_back S 95 4 ls st (some (.inl (some v), h)) = sx_Ev S 95 7 ls (v :: st) h) ∧
  (∀ (ls : sx_L) (st : List Value) (e : Nat) (h : sx_H), sx_back S 95 4 ls st (some (.inr e, h)) = some (.inr e, h)) ∧
  (∀ (l1 l2 : Option Value) (s0 : Int32) (x : Nat) (h : sx_H), sx_Ev S 95 7 [some (.ref x), l1, l2] [.int s0] h = sx_Ev S 95 8 [some (.ref x), l1, l2] [.ref x, .int s0] h) ∧
  (∀ (l0 l1 l2 : Option Value) (s0 : Nat) (s1 : Int32) (h : sx_H), sx_Ev S 95 8 [l0, l1, l2] [.ref s0, .int s1] h = (sx_fld h s0 6 3).bind fun v => sx_Ev S 95 11 [l0, l1, l2] [v, .int s1] h) ∧
  (∀ (l0 l1 l2 : Option Value) (s0 : Nat) (s1 : Int32) (h : sx_H), sx_klass h s0 = some 4 → sx_Ev S 95 11 [l0, l1, l2] [.ref s0, .int s1] h = sx_back S 95 11 [l0, l1, l2] [.int s1] (sx_Cl S 60 [.ref s0] h)) ∧
  (∀ (ls : sx_L) (st : List Value) (v : Value) (h : sx_H), sx_back S 95 11 ls st (some (.inl (some v), h)) = sx_Ev S 95 14 ls (v :: st) h) ∧
  (∀ (ls : sx_L) (st : List Value) (e : Nat) (h : sx_H), sx_back S 95 11 ls st (some (.inr e, h)) = some (.inr e, h)) ∧
  (∀ (l0 l1 l2 : Option Value) (s0 : Int32) (s1 : Int32) (h : sx_H), sx_Ev S 95 14 [l0, l1, l2] [.int s0, .int s1] h = sx_Ev S 95 15 [l0, l1, l2] [.int (s1 + s0)] h) ∧
  (∀ (l1 l2 : Option Value) (s0 : Int32) (x : Nat) (h : sx_H), sx_Ev S 95 15 [some (.ref x), l1, l2] [.int s0] h = sx_Ev S 95 16 [some (.ref x), l1, l2] [.ref x, .int s0] h) ∧
  (∀ (l0 l1 l2 : Option Value) (s0 : Nat) (s1 : Int32) (h : sx_H), sx_Ev S 95 16 [l0, l1, l2] [.ref s0, .int s1] h = sx_Ev S 95 18 [l0, l1, l2] [.int (sz (119)), .ref s0, .int s1] h) ∧
  (∀ (l0 l1 l2 : Option Value) (s0 : Int32) (s1 : Nat) (s2 : Int32) (h : sx_H), sx_klass h s1 = some 6 → sx_Ev S 95 18 [l0, l1, l2] [.int s0, .ref s1, .int s2] h = sx_back S 95 18 [l0, l1, l2] [.int s2] (sx_Cl S 94 [.ref s1, .int s0] h)) ∧
  (∀ (ls : sx_L) (st : List Value) (v : Value) (h : sx_H), sx_back S 95 18 ls st (some (.inl (some v), h)) = sx_Ev S 95 21 ls (v :: st) h) ∧
  (∀ (ls : sx_L) (st : List Value) (e : Nat) (h : sx_H), sx_back S 95 18 ls st (some (.inr e, h)) = some (.inr e, h)) ∧
  (∀ (l0 l1 l2 : Option Value) (s0 : Int32) (s1 : Int32) (h : sx_H), sx_Ev S 95 21 [l0, l1, l2] [.int s0, .int s1] h = sx_Ev S 95 22 [l0, l1, l2] [.int (s1 + s0)] h) ∧
  (∀ (l1 l2 : Option Value) (s0 : Int32) (x : Nat) (h : sx_H), sx_Ev S 95 22 [some (.ref x), l1, l2] [.int s0] h = sx_Ev S 95 23 [some (.ref x), l1, l2] [.ref x, .int s0] h) ∧
  (∀ (l0 l1 l2 : Option Value) (s0 : Nat) (s1 : Int32) (h : sx_H), sx_Ev S 95 23 [l0, l1, l2] [.ref s0, .int s1] h = sx_Ev S 95 25 [l0, l1, l2] [.int (sz (103)), .ref s0, .int s1] h) ∧
  (∀ (l0 l1 l2 : Option Value) (s0 : Int32) (s1 : Nat) (s2 : Int32) (h : sx_H), sx_klass h s1 = some 6 → sx_Ev S 95 25 [l0, l1, l2] [.int s0, .ref s1, .int s2] h = sx_back S 95 25 [l0, l1, l2] [.int s2] (sx_Cl S 94 [.ref s1, .int s0] h)) ∧
  (∀ (ls : sx_L) (st : List Value) (v : Value) (h : sx_H), sx_back S 95 25 ls st (some (.inl (some v), h)) = sx_Ev S 95 28 ls (v :: st) h) ∧
  (∀ (ls : sx_L) (st : List Value) (e : Nat) (h : sx_H), sx_back S 95 25 ls st (some (.inr e, h)) = some (.inr e, h)) ∧
  (∀ (l0 l1 l2 : Option Value) (s0 : Int32) (s1 : Int32) (h : sx_H), sx_Ev S 95 28 [l0, l1, l2] [.int s0, .int s1] h = sx_Ev S 95 29 [l0, l1, l2] [.int (s1 + s0)] h) ∧
  (∀ (l1 l2 : Option Value) (s0 : Int32) (x : Nat) (h : sx_H), sx_Ev S 95 29 [some (.ref x), l1, l2] [.int s0] h = sx_Ev S 95 30 [some (.ref x), l1, l2] [.ref x, .int s0] h) ∧
  (∀ (l0 l1 l2 : Option Value) (s0 : Nat) (s1 : Int32) (h : sx_H), sx_Ev S 95 30 [l0, l1, l2] [.ref s0, .int s1] h = sx_Ev S 95 32 [l0, l1, l2] [.int (sz (115)), .ref s0, .int s1] h) ∧
  (∀ (l0 l1 l2 : Option Value) (s0 : Int32) (s1 : Nat) (s2 : Int32) (h : sx_H), sx_klass h s1 = some 6 → sx_Ev S 95 32 [l0, l1, l2] [.int s0, .ref s1, .int s2] h = sx_back S 95 32 [l0, l1, l2] [.int s2] (sx_Cl S 94 [.ref s1, .int s0] h)) ∧
  (∀ (ls : sx_L) (st : List Value) (v : Value) (h : sx_H), sx_back S 95 32 ls st (some (.inl (some v), h)) = sx_Ev S 95 35 ls (v :: st) h) ∧
  (∀ (ls : sx_L) (st : List Value) (e : Nat) (h : sx_H), sx_back S 95 32 ls st (some (.inr e, h)) = some (.inr e, h)) ∧
  (∀ (l0 l1 l2 : Option Value) (s0 : Int32) (s1 : Int32) (h : sx_H), sx_Ev S 95 35 [l0, l1, l2] [.int s0, .int s1] h = sx_Ev S 95 36 [l0, l1, l2] [.int (s1 + s0)] h) ∧
  (∀ (l0 l1 l2 : Option Value) (s0 : Int32) (h : sx_H), sx_Ev S 95 36 [l0, l1, l2] [.int s0] h = sx_Ev S 95 37 [l0, some (.int s0), l2] [] h) ∧
  (∀ (l0 l2 : Option Value) (x : Int32) (h : sx_H), sx_Ev S 95 37 [l0, some (.int x), l2] [] h = sx_Ev S 95 38 [l0, some (.int x), l2] [.int x] h) ∧
  (∀ (l1 l2 : Option Value) (s0 : Int32) (x : Nat) (h : sx_H), sx_Ev S 95 38 [some (.ref x), l1, l2] [.int s0] h = sx_Ev S 95 39 [some (.ref x), l1, l2] [.ref x, .int s0] h) ∧
  (∀ (l0 l1 l2 : Option Value) (s0 : Nat) (s1 : Int32) (h : sx_H), sx_Ev S 95 39 [l0, l1, l2] [.ref s0, .int s1] h = (sx_fld h s0 6 11).bind fun v => sx_Ev S 95 42 [l0, l1, l2] [v, .int s1] h) ∧
  (∀ (l0 l1 l2 : Option Value) (s0 : Int32) (s1 : Int32) (h : sx_H), sx_Ev S 95 42 [l0, l1, l2] [.int s0, .int s1] h = sx_Ev S 95 43 [l0, l1, l2] [.int (s1 + s0)] h) ∧
  (∀ (l1 l2 : Option Value) (s0 : Int32) (x : Nat) (h : sx_H), sx_Ev S 95 43 [some (.ref x), l1, l2] [.int s0] h = sx_Ev S 95 44 [some (.ref x), l1, l2] [.ref x, .int s0] h) ∧
  (∀ (l0 l1 l2 : Option Value) (s0 : Nat) (s1 : Int32) (h : sx_H), sx_Ev S 95 44 [l0, l1, l2] [.ref s0, .int s1] h = (sx_fld h s0 6 10).bind fun v => sx_Ev S 95 47 [l0, l1, l2] [v, .int s1] h) ∧
  (∀ (l0 l1 l2 : Option Value) (s0 : Int32) (s1 : Int32) (h : sx_H), sx_Ev S 95 47 [l0, l1, l2] [.int s0, .int s1] h = if s1 = s0 then sx_Ev S 95 52 [l0, l1, l2] [] h else sx_Ev S 95 50 [l0, l1, l2] [] h) ∧
  (∀ (l0 l1 l2 : Option Value) (h : sx_H), sx_Ev S 95 50 [l0, l1, l2] [] h = sx_Ev S 95 51 [l0, l1, l2] [.int (sz (0))] h) ∧
  (∀ (l0 l1 l2 : Option Value) (s0 : Int32) (h : sx_H), narrow .boolean (.int s0) = .int s0 → sx_Ev S 95 51 [l0, l1, l2] [.int s0] h = some (.inl (some (.int s0)), h)) ∧
  (∀ (l0 l1 l2 : Option Value) (h : sx_H), sx_Ev S 95 52 [l0, l1, l2] [] h = sx_Ev S 95 53 [l0, l1, l2] [.int (sz (0))] h) ∧
  (∀ (l0 l1 l2 : Option Value) (s0 : Int32) (h : sx_H), sx_Ev S 95 53 [l0, l1, l2] [.int s0] h = sx_Ev S 95 54 [l0, l1, some (.int s0)] [] h) ∧
  (∀ (l1 l2 : Option Value) (s0 : Int32) (x : Nat) (h : sx_H), sx_Ev S 95 55 [some (.ref x), l1, l2] [.int s0] h = sx_Ev S 95 56 [some (.ref x), l1, l2] [.ref x, .int s0] h) ∧
  (∀ (l0 l1 l2 : Option Value) (s0 : Nat) (s1 : Int32) (h : sx_H), sx_Ev S 95 56 [l0, l1, l2] [.ref s0, .int s1] h = (sx_fld h s0 6 6).bind fun v => sx_Ev S 95 59 [l0, l1, l2] [v, .int s1] h) ∧
  (∀ (l0 l1 l2 : Option Value) (s0 : Int32) (s1 : Int32) (h : sx_H), sx_Ev S 95 59 [l0, l1, l2] [.int s0, .int s1] h = if s1 < s0 then sx_Ev S 95 62 [l0, l1, l2] [] h else sx_Ev S 95 81 [l0, l1, l2] [] h) ∧
  (∀ (l1 l2 : Option Value) (x : Nat) (h : sx_H), sx_Ev S 95 62 [some (.ref x), l1, l2] [] h = sx_Ev S 95 63 [some (.ref x), l1, l2] [.ref x] h) ∧
  (∀ (l0 l1 : Option Value) (s0 : Nat) (x : Int32) (h : sx_H), sx_Ev S 95 63 [l0, l1, some (.int x)] [.ref s0] h = sx_Ev S 95 64 [l0, l1, some (.int x)] [.int x, .ref s0] h) ∧
  (∀ (l0 l1 l2 : Option Value) (s0 : Int32) (s1 : Nat) (h : sx_H), sx_klass h s1 = some 6 → sx_Ev S 95 64 [l0, l1, l2] [.int s0, .ref s1] h = sx_back S 95 64 [l0, l1, l2] [] (sx_Cl S 70 [.ref s1, .int s0] h)) ∧
  (∀ (ls : sx_L) (st : List Value) (v : Value) (h : sx_H), sx_back S 95 64 ls st (some (.inl (some v), h)) = sx_Ev S 95 67 ls (v :: st) h) ∧
  (∀ (ls : sx_L) (st : List Value) (e : Nat) (h : sx_H), sx_back S 95 64 ls st (some (.inr e, h)) = some (.inr e, h)) ∧
  (∀ (l0 l1 l2 : Option Value) (s0 : Nat) (h : sx_H), sx_klass h s0 = some 0 → sx_Ev S 95 67 [l0, l1, l2] [.ref s0] h = sx_back S 95 67 [l0, l1, l2] [] (sx_Cl S 39 [.ref s0] h)) ∧
  (∀ (ls : sx_L) (st : List Value) (v : Value) (h : sx_H), sx_back S 95 67 ls st (some (.inl (some v), h)) = sx_Ev S 95 70 ls (v :: st) h) ∧
  (∀ (ls : sx_L) (st : List Value) (e : Nat) (h : sx_H), sx_back S 95 67 ls st (some (.inr e, h)) = some (.inr e, h)) ∧
  (∀ (l0 l1 l2 : Option Value) (s0 : Int32) (h : sx_H), sx_Ev S 95 70 [l0, l1, l2] [.int s0] h = if s0 = 0 then sx_Ev S 95 73 [l0, l1, l2] [] h else sx_Ev S 95 75 [l0, l1, l2] [] h) ∧
  (∀ (l0 l1 l2 : Option Value) (h : sx_H), sx_Ev S 95 73 [l0, l1, l2] [] h = sx_Ev S 95 74 [l0, l1, l2] [.int (sz (0))] h) ∧
  (∀ (l0 l1 l2 : Option Value) (s0 : Int32) (h : sx_H), narrow .boolean (.int s0) = .int s0 → sx_Ev S 95 74 [l0, l1, l2] [.int s0] h = some (.inl (some (.int s0)), h)) ∧
  (∀ (l0 l1 : Option Value) (x : Int32) (h : sx_H), sx_Ev S 95 75 [l0, l1, some (.int x)] [] h = sx_Ev S 95 78 [l0, l1, some (.int (x + sz (1)))] [] h) ∧
  (∀ (l0 l1 l2 : Option Value) (h : sx_H), sx_Ev S 95 78 [l0, l1, l2] [] h = sx_Ev S 95 54 [l0, l1, l2] [] h) ∧
  (∀ (l0 l1 l2 : Option Value) (h : sx_H), sx_Ev S 95 81 [l0, l1, l2] [] h = sx_Ev S 95 82 [l0, l1, l2] [.int (sz (1))] h) ∧
  (∀ (l0 l1 l2 : Option Value) (s0 : Int32) (h : sx_H), narrow .boolean (.int s0) = .int s0 → sx_Ev S 95 82 [l0, l1, l2] [.int s0] h = some (.inl (some (.int s0)), h)) := ⟨fun _ _ _ _ => sx_e_nx rfl rfl,
  fun _ _ _ _ _ => sx_e_getf rfl rfl (by decide) rfl,
  fun _ _ _ _ _ hv => sx_e_virt rfl rfl ⟨Nat.le_of_ble_eq_true rfl, Nat.le_of_ble_eq_true rfl, rfl⟩ rfl rfl rfl hv,
  fun _ _ _ _ => rfl,
  fun _ _ _ _ => rfl,
  fun _ _ _ _ _ => sx_e_nx rfl rfl,
  fun _ _ _ _ _ _ => sx_e_getf rfl rfl (by decide) rfl,
  fun _ _ _ _ _ _ hv => sx_e_virt rfl rfl ⟨Nat.le_of_ble_eq_true rfl, Nat.le_of_ble_eq_true rfl, rfl⟩ rfl rfl rfl hv,
  fun _ _ _ _ => rfl,
  fun _ _ _ _ => rfl,
  fun _ _ _ _ _ _ => sx_e_nx rfl rfl,
  fun _ _ _ _ _ => sx_e_nx rfl rfl,
  fun _ _ _ _ _ _ => sx_e_bi rfl (by decide +kernel) rfl,
  fun _ _ _ _ _ _ _ hv => sx_e_virt rfl rfl ⟨Nat.le_of_ble_eq_true rfl, Nat.le_of_ble_eq_true rfl, rfl⟩ rfl rfl rfl hv,
  fun _ _ _ _ => rfl,
  fun _ _ _ _ => rfl,
  fun _ _ _ _ _ _ => sx_e_nx rfl rfl,
  fun _ _ _ _ _ => sx_e_nx rfl rfl,
  fun _ _ _ _ _ _ => sx_e_bi rfl (by decide +kernel) rfl,
  fun _ _ _ _ _ _ _ hv => sx_e_virt rfl rfl ⟨Nat.le_of_ble_eq_true rfl, Nat.le_of_ble_eq_true rfl, rfl⟩ rfl rfl rfl hv,
  fun _ _ _ _ => rfl,
  fun _ _ _ _ => rfl,
  fun _ _ _ _ _ _ => sx_e_nx rfl rfl,
  fun _ _ _ _ _ => sx_e_nx rfl rfl,
  fun _ _ _ _ _ _ => sx_e_bi rfl (by decide +kernel) rfl,
  fun _ _ _ _ _ _ _ hv => sx_e_virt rfl rfl ⟨Nat.le_of_ble_eq_true rfl, Nat.le_of_ble_eq_true rfl, rfl⟩ rfl rfl rfl hv,
  fun _ _ _ _ => rfl,
  fun _ _ _ _ => rfl,
  fun _ _ _ _ _ _ => sx_e_nx rfl rfl,
  fun _ _ _ _ _ => sx_e_nx rfl rfl,
  fun _ _ _ _ => sx_e_nx rfl rfl,
  fun _ _ _ _ _ => sx_e_nx rfl rfl,
  fun _ _ _ _ _ _ => sx_e_getf rfl rfl (by decide) rfl,
  fun _ _ _ _ _ _ => sx_e_nx rfl rfl,
  fun _ _ _ _ _ => sx_e_nx rfl rfl,
  fun _ _ _ _ _ _ => sx_e_getf rfl rfl (by decide) rfl,
  fun _ _ _ _ _ _ => sx_e_ieq rfl (by decide) rfl,
  fun _ _ _ _ => sx_e_nx rfl rfl,
  fun _ _ _ _ _ hv => sx_e_ret rfl rfl hv,
  fun _ _ _ _ => sx_e_nx rfl rfl,
  fun _ _ _ _ _ => sx_e_nx rfl rfl,
  fun _ _ _ _ _ => sx_e_nx rfl rfl,
  fun _ _ _ _ _ _ => sx_e_getf rfl rfl (by decide) rfl,
  fun _ _ _ _ _ _ => sx_e_ige rfl (by decide) rfl,
  fun _ _ _ _ => sx_e_nx rfl rfl,
  fun _ _ _ _ _ => sx_e_nx rfl rfl,
  fun _ _ _ _ _ _ hv => sx_e_virt rfl rfl ⟨Nat.le_of_ble_eq_true rfl, Nat.le_of_ble_eq_true rfl, rfl⟩ rfl rfl rfl hv,
  fun _ _ _ _ => rfl,
  fun _ _ _ _ => rfl,
  fun _ _ _ _ _ hv => sx_e_virt rfl rfl ⟨Nat.le_of_ble_eq_true rfl, Nat.le_of_ble_eq_true rfl, rfl⟩ rfl rfl rfl hv,
  fun _ _ _ _ => rfl,
  fun _ _ _ _ => rfl,
  fun _ _ _ _ _ => sx_e_ne rfl (by decide) rfl,
  fun _ _ _ _ => sx_e_nx rfl rfl,
  fun _ _ _ _ _ hv => sx_e_ret rfl rfl hv,
  fun _ _ _ _ => sx_e_nx rfl rfl,
  fun _ _ _ _ => sx_e_goto rfl (by decide),
  fun _ _ _ _ => sx_e_nx rfl rfl,
  fun _ _ _ _ _ hv => sx_e_ret rfl rfl hv⟩
/-- 96: J9_max_7cf53 (II)I -/
theorem c96_q (S : List Int32) : ∀ (a0 : Int32) (a1 : Int32) (h : sx_H), sx_Cl S 96 [.int a0, .int a1] h = sx_Ev S 96 0 [some (.int a0), some (.int a1)] [] h := fun _ _ _ => rfl
theorem q96 (S : List Int32) : (∀ (l1 : Option Value) (x : Int32) (h : sx_H), sx_Ev S 96 0 [some (.int x), l1] [] h = sx_Ev S 96 1 [some (.int x), l1] [.int x] h) ∧
  (∀ (l0 : Option Value) (s0 : Int32) (x : Int32) (h : sx_H), sx_Ev S 96 1 [l0, some (.int x)] [.int s0] h = sx_Ev S 96 2 [l0, some (.int x)] [.int x, .int s0] h) ∧
  (∀ (l0 l1 : Option Value) (s0 : Int32) (s1 : Int32) (h : sx_H), sx_Ev S 96 2 [l0, l1] [.int s0, .int s1] h = if s1 < s0 then sx_Ev S 96 9 [l0, l1] [] h else sx_Ev S 96 5 [l0, l1] [] h) ∧
  (∀ (l1 : Option Value) (x : Int32) (h : sx_H), sx_Ev S 96 5 [some (.int x), l1] [] h = sx_Ev S 96 6 [some (.int x), l1] [.int x] h) ∧
  (∀ (l0 l1 : Option Value) (s0 : Int32) (h : sx_H), sx_Ev S 96 6 [l0, l1] [.int s0] h = sx_Ev S 96 10 [l0, l1] [.int s0] h) ∧
  (∀ (l0 : Option Value) (x : Int32) (h : sx_H), sx_Ev S 96 9 [l0, some (.int x)] [] h = sx_Ev S 96 10 [l0, some (.int x)] [.int x] h) ∧
  (∀ (l0 l1 : Option Value) (s0 : Int32) (h : sx_H), sx_Ev S 96 10 [l0, l1] [.int s0] h = some (.inl (some (.int s0)), h)) := ⟨fun _ _ _ => sx_e_nx rfl rfl,
  fun _ _ _ _ => sx_e_nx rfl rfl,
  fun _ _ _ _ _ => sx_e_ilt rfl (by decide) rfl,
  fun _ _ _ => sx_e_nx rfl rfl,
  fun _ _ _ _ => sx_e_goto rfl (by decide),
  fun _ _ _ => sx_e_nx rfl rfl,
  fun _ _ _ _ => sx_e_ret rfl rfl rfl⟩
/-- 97: L_cell ([II)I -/
theorem c97_q (S : List Int32) : ∀ (a0 : Nat) (a1 : Int32) (h : sx_H), sx_Cl S 97 [.ref a0, .int a1] h = sx_Ev S 97 0 [some (.ref a0), some (.int a1), none] [] h := fun _ _ _ => rfl
theorem q97 (S : List Int32) : (∀ (l0 l1 l2 : Option Value) (h : sx_H), sx_Ev S 97 0 [l0, l1, l2] [] h = sx_Ev S 97 2 [l0, l1, l2] [.int (sz (69069))] h) ∧
  (∀ (l0 l2 : Option Value) (s0 : Int32) (x : Int32) (h : sx_H), sx_Ev S 97 2 [l0, some (.int x), l2] [.int s0] h = sx_Ev S 97 3 [l0, some (.int x), l2] [.int x, .int s0] h) ∧
  (∀ (l1 l2 : Option Value) (s0 : Int32) (s1 : Int32) (x : Nat) (h : sx_H), sx_Ev S 97 3 [some (.ref x), l1, l2] [.int s0, .int s1] h = sx_Ev S 97 4 [some (.ref x), l1, l2] [.ref x, .int s0, .int s1] h) ∧
  (∀ (l0 l1 l2 : Option Value) (s0 : Nat) (s1 : Int32) (s2 : Int32) (h : sx_H), sx_Ev S 97 4 [l0, l1, l2] [.ref s0, .int s1, .int s2] h = (sx_ints S h s0).bind fun v => sx_Ev S 97 5 [l0, l1, l2] [.int (Int32.ofNat v.length), .int s1, .int s2] h) ∧
  (∀ (l0 l1 l2 : Option Value) (s0 : Int32) (s1 : Int32) (s2 : Int32) (h : sx_H), sx_Ev S 97 5 [l0, l1, l2] [.int s0, .int s1, .int s2] h = if s1 < s0 then sx_Ev S 97 8 [l0, l1, l2] [.int s2] h else sx_Ev S 97 14 [l0, l1, l2] [.int s2] h) ∧
  (∀ (l1 l2 : Option Value) (s0 : Int32) (x : Nat) (h : sx_H), sx_Ev S 97 8 [some (.ref x), l1, l2] [.int s0] h = sx_Ev S 97 9 [some (.ref x), l1, l2] [.ref x, .int s0] h) ∧
  (∀ (l0 l2 : Option Value) (s0 : Nat) (s1 : Int32) (x : Int32) (h : sx_H), sx_Ev S 97 9 [l0, some (.int x), l2] [.ref s0, .int s1] h = sx_Ev S 97 10 [l0, some (.int x), l2] [.int x, .ref s0, .int s1] h) ∧
  (∀ (l0 l1 l2 : Option Value) (s0 : Int32) (s1 : Nat) (s2 : Int32) (h : sx_H), sx_Ev S 97 10 [l0, l1, l2] [.int s0, .ref s1, .int s2] h = (sx_rd S h s1 s0).bind fun v => sx_Ev S 97 11 [l0, l1, l2] [.int v, .int s2] h) ∧
  (∀ (l0 l1 l2 : Option Value) (s0 : Int32) (s1 : Int32) (h : sx_H), sx_Ev S 97 11 [l0, l1, l2] [.int s0, .int s1] h = sx_Ev S 97 15 [l0, l1, l2] [.int s0, .int s1] h) ∧
  (∀ (l0 l1 l2 : Option Value) (s0 : Int32) (h : sx_H), sx_Ev S 97 14 [l0, l1, l2] [.int s0] h = sx_Ev S 97 15 [l0, l1, l2] [.int (sz (0)), .int s0] h) ∧
  (∀ (l0 l1 l2 : Option Value) (s0 : Int32) (s1 : Int32) (h : sx_H), sx_Ev S 97 15 [l0, l1, l2] [.int s0, .int s1] h = sx_Ev S 97 18 [l0, l1, l2] [.int (sz (1009)), .int s0, .int s1] h) ∧
  (∀ (l0 l2 : Option Value) (s0 : Int32) (s1 : Int32) (s2 : Int32) (x : Int32) (h : sx_H), sx_Ev S 97 18 [l0, some (.int x), l2] [.int s0, .int s1, .int s2] h = sx_Ev S 97 19 [l0, some (.int x), l2] [.int x, .int s0, .int s1, .int s2] h) ∧
  (∀ (l0 l1 l2 : Option Value) (s0 : Int32) (s1 : Int32) (s2 : Int32) (s3 : Int32) (h : sx_H), sx_Ev S 97 19 [l0, l1, l2] [.int s0, .int s1, .int s2, .int s3] h = sx_Ev S 97 20 [l0, l1, l2] [.int (s1 * s0), .int s2, .int s3] h) ∧
  (∀ (l0 l1 l2 : Option Value) (s0 : Int32) (s1 : Int32) (s2 : Int32) (h : sx_H), sx_Ev S 97 20 [l0, l1, l2] [.int s0, .int s1, .int s2] h = sx_Ev S 97 21 [l0, l1, l2] [.int (s1 + s0), .int s2] h) ∧
  (∀ (l0 l1 l2 : Option Value) (s0 : Int32) (s1 : Int32) (h : sx_H), sx_Ev S 97 21 [l0, l1, l2] [.int s0, .int s1] h = sx_Ev S 97 22 [l0, l1, l2] [.int (s1 * s0)] h) ∧
  (∀ (l0 l1 l2 : Option Value) (s0 : Int32) (h : sx_H), sx_Ev S 97 22 [l0, l1, l2] [.int s0] h = sx_Ev S 97 25 [l0, l1, l2] [.int (sz (12345)), .int s0] h) ∧
  (∀ (l0 l1 l2 : Option Value) (s0 : Int32) (s1 : Int32) (h : sx_H), sx_Ev S 97 25 [l0, l1, l2] [.int s0, .int s1] h = sx_Ev S 97 26 [l0, l1, l2] [.int (s1 + s0)] h) ∧
  (∀ (l0 l1 l2 : Option Value) (s0 : Int32) (h : sx_H), sx_Ev S 97 26 [l0, l1, l2] [.int s0] h = sx_Ev S 97 27 [l0, l1, some (.int s0)] [] h) ∧
  (∀ (l0 l1 : Option Value) (x : Int32) (h : sx_H), sx_Ev S 97 27 [l0, l1, some (.int x)] [] h = sx_Ev S 97 28 [l0, l1, some (.int x)] [.int x] h) ∧
  (∀ (l0 l1 : Option Value) (s0 : Int32) (x : Int32) (h : sx_H), sx_Ev S 97 28 [l0, l1, some (.int x)] [.int s0] h = sx_Ev S 97 29 [l0, l1, some (.int x)] [.int x, .int s0] h) ∧
  (∀ (l0 l1 l2 : Option Value) (s0 : Int32) (s1 : Int32) (h : sx_H), sx_Ev S 97 29 [l0, l1, l2] [.int s0, .int s1] h = sx_Ev S 97 31 [l0, l1, l2] [.int (sz (13)), .int s0, .int s1] h) ∧
  (∀ (l0 l1 l2 : Option Value) (s0 : Int32) (s1 : Int32) (s2 : Int32) (h : sx_H), sx_Ev S 97 31 [l0, l1, l2] [.int s0, .int s1, .int s2] h = sx_Ev S 97 32 [l0, l1, l2] [.int (s1.toUInt32 >>> (s0.toUInt32 &&& Int32.toUInt32 31)).toInt32, .int s2] h) ∧
  (∀ (l0 l1 l2 : Option Value) (s0 : Int32) (s1 : Int32) (h : sx_H), sx_Ev S 97 32 [l0, l1, l2] [.int s0, .int s1] h = sx_Ev S 97 33 [l0, l1, l2] [.int (s1 ^^^ s0)] h) ∧
  (∀ (l0 l1 l2 : Option Value) (s0 : Int32) (h : sx_H), sx_Ev S 97 33 [l0, l1, l2] [.int s0] h = sx_Ev S 97 35 [l0, l1, l2] [.int (sz (1103515245)), .int s0] h) ∧
  (∀ (l0 l1 l2 : Option Value) (s0 : Int32) (s1 : Int32) (h : sx_H), sx_Ev S 97 35 [l0, l1, l2] [.int s0, .int s1] h = sx_Ev S 97 36 [l0, l1, l2] [.int (s1 * s0)] h) ∧
  (∀ (l0 l1 l2 : Option Value) (s0 : Int32) (h : sx_H), sx_Ev S 97 36 [l0, l1, l2] [.int s0] h = sx_Ev S 97 37 [l0, l1, some (.int s0)] [] h) ∧
  (∀ (l0 l1 : Option Value) (x : Int32) (h : sx_H), sx_Ev S 97 37 [l0, l1, some (.int x)] [] h = sx_Ev S 97 38 [l0, l1, some (.int x)] [.int x] h) ∧
  (∀ (l0 l1 : Option Value) (s0 : Int32) (x : Int32) (h : sx_H), sx_Ev S 97 38 [l0, l1, some (.int x)] [.int s0] h = sx_Ev S 97 39 [l0, l1, some (.int x)] [.int x, .int s0] h) ∧
  (∀ (l0 l1 l2 : Option Value) (s0 : Int32) (s1 : Int32) (h : sx_H), sx_Ev S 97 39 [l0, l1, l2] [.int s0, .int s1] h = sx_Ev S 97 41 [l0, l1, l2] [.int (sz (16)), .int s0, .int s1] h) ∧
  (∀ (l0 l1 l2 : Option Value) (s0 : Int32) (s1 : Int32) (s2 : Int32) (h : sx_H), sx_Ev S 97 41 [l0, l1, l2] [.int s0, .int s1, .int s2] h = sx_Ev S 97 42 [l0, l1, l2] [.int (s1.toUInt32 >>> (s0.toUInt32 &&& Int32.toUInt32 31)).toInt32, .int s2] h) ∧
  (∀ (l0 l1 l2 : Option Value) (s0 : Int32) (s1 : Int32) (h : sx_H), sx_Ev S 97 42 [l0, l1, l2] [.int s0, .int s1] h = sx_Ev S 97 43 [l0, l1, l2] [.int (s1 ^^^ s0)] h) ∧
  (∀ (l0 l1 l2 : Option Value) (s0 : Int32) (h : sx_H), sx_Ev S 97 43 [l0, l1, l2] [.int s0] h = some (.inl (some (.int s0)), h)) := ⟨fun _ _ _ _ => sx_e_ldc rfl rfl (by decide +kernel) rfl,
  fun _ _ _ _ _ => sx_e_nx rfl rfl,
  fun _ _ _ _ _ _ => sx_e_nx rfl rfl,
  fun _ _ _ _ _ _ _ => sx_e_alen rfl rfl,
  fun _ _ _ _ _ _ _ => sx_e_ige rfl (by decide) rfl,
  fun _ _ _ _ _ => sx_e_nx rfl rfl,
  fun _ _ _ _ _ _ => sx_e_nx rfl rfl,
  fun _ _ _ _ _ _ _ => sx_e_iald rfl rfl,
  fun _ _ _ _ _ _ => sx_e_goto rfl (by decide),
  fun _ _ _ _ _ => sx_e_nx rfl rfl,
  fun _ _ _ _ _ _ => sx_e_si rfl (by decide +kernel) rfl,
  fun _ _ _ _ _ _ _ => sx_e_nx rfl rfl,
  fun _ _ _ _ _ _ _ _ => sx_e_nx rfl rfl,
  fun _ _ _ _ _ _ _ => sx_e_nx rfl rfl,
  fun _ _ _ _ _ _ => sx_e_nx rfl rfl,
  fun _ _ _ _ _ => sx_e_si rfl (by decide +kernel) rfl,
  fun _ _ _ _ _ _ => sx_e_nx rfl rfl,
  fun _ _ _ _ _ => sx_e_nx rfl rfl,
  fun _ _ _ _ => sx_e_nx rfl rfl,
  fun _ _ _ _ _ => sx_e_nx rfl rfl,
  fun _ _ _ _ _ _ => sx_e_bi rfl (by decide +kernel) rfl,
  fun _ _ _ _ _ _ _ => sx_e_nx rfl rfl,
  fun _ _ _ _ _ _ => sx_e_nx rfl rfl,
  fun _ _ _ _ _ => sx_e_ldc rfl rfl (by decide +kernel) rfl,
  fun _ _ _ _ _ _ => sx_e_nx rfl rfl,
  fun _ _ _ _ _ => sx_e_nx rfl rfl,
  fun _ _ _ _ => sx_e_nx rfl rfl,
  fun _ _ _ _ _ => sx_e_nx rfl rfl,
  fun _ _ _ _ _ _ => sx_e_bi rfl (by decide +kernel) rfl,
  fun _ _ _ _ _ _ _ => sx_e_nx rfl rfl,
  fun _ _ _ _ _ _ => sx_e_nx rfl rfl,
  fun _ _ _ _ _ => sx_e_ret rfl rfl rfl⟩
