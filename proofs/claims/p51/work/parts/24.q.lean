/-! EQUATIONS of the methods 98 to 119: printed by wip/p51/gen2.py -/
/-- 98: L_addKind (LBeadslant;IIII)I -/
theorem c98_q (S : List Int32) : ∀ (a0 : Nat) (a1 : Int32) (a2 : Int32) (a3 : Int32) (a4 : Int32) (h : sx_H), sx_Cl S 98 [.ref a0, .int a1, .int a2, .int a3, .int a4] h = sx_Ev S 98 0 [some (.ref a0), some (.int a1), some (.int a2), some (.int a3), some (.int a4), none] [] h := fun _ _ _ _ _ _ => rfl
theorem q98 (S : List Int32) : (∀ (l1 l2 l3 l4 l5 : Option Value) (x : Nat) (h : sx_H), sx_Ev S 98 0 [some (.ref x), l1, l2, l3, l4, l5] [] h = sx_Ev S 98 1 [some (.ref x), l1, l2, l3, l4, l5] [.ref x] h) ∧
  (∀ (l0 l2 l3 l4 l5 : Option Value) (s0 : Nat) (x : Int32) (h : sx_H), sx_Ev S 98 1 [l0, some (.int x), l2, l3, l4, l5] [.ref s0] h = sx_Ev S 98 2 [l0, some (.int x), l2, l3, l4, l5] [.int x, .ref s0] h) ∧
  (∀ (l0 l1 l3 l4 l5 : Option Value) (s0 : Int32) (s1 : Nat) (x : Int32) (h : sx_H), sx_Ev S 98 2 [l0, l1, some (.int x), l3, l4, l5] [.int s0, .ref s1] h = sx_Ev S 98 3 [l0, l1, some (.int x), l3, l4, l5] [.int x, .int s0, .ref s1] h) ∧
  (∀ (l0 l1 l2 l4 l5 : Option Value) (s0 : Int32) (s1 : Int32) (s2 : Nat) (x : Int32) (h : sx_H), sx_Ev S 98 3 [l0, l1, l2, some (.int x), l4, l5] [.int s0, .int s1, .ref s2] h = sx_Ev S 98 4 [l0, l1, l2, some (.int x), l4, l5] [.int x, .int s0, .int s1, .ref s2] h) ∧
  (∀ (l0 l1 l2 l3 l5 : Option Value) (s0 : Int32) (s1 : Int32) (s2 : Int32) (s3 : Nat) (x : Int32) (h : sx_H), sx_Ev S 98 4 [l0, l1, l2, l3, some (.int x), l5] [.int s0, .int s1, .int s2, .ref s3] h = sx_Ev S 98 6 [l0, l1, l2, l3, some (.int x), l5] [.int x, .int s0, .int s1, .int s2, .ref s3] h) ∧
  (∀ (l0 l1 l2 l3 l4 l5 : Option Value) (s0 : Int32) (s1 : Int32) (s2 : Int32) (s3 : Int32) (s4 : Nat) (h : sx_H), sx_klass h s4 = some 6 → sx_Ev S 98 6 [l0, l1, l2, l3, l4, l5] [.int s0, .int s1, .int s2, .int s3, .ref s4] h = sx_back S 98 6 [l0, l1, l2, l3, l4, l5] [] (sx_Cl S 67 [.ref s4, .int s3, .int s2, .int s1, .int s0] h)) ∧
  (∀ (ls : sx_L) (st : List Value) (v : Value) (h : sx_H), sx_back S 98 6 ls st (some (.inl (some v), h)) = sx_Ev S 98 9 ls (v :: st) h) ∧
  (∀ (l0 l1 l2 l3 l4 l5 : Option Value) (st : List Value) (h : sx_H), sx_back S 98 6 [l0, l1, l2, l3, l4, l5] st (some (.inr 0, h)) = sx_Ev S 98 12 [l0, l1, l2, l3, l4, none] [] h) ∧
  (∀ (l0 l1 l2 l3 l4 l5 : Option Value) (st : List Value) (h : sx_H), sx_back S 98 6 [l0, l1, l2, l3, l4, l5] st (some (.inr 1, h)) = sx_Ev S 98 17 [l0, l1, l2, l3, l4, none] [] h) ∧
  (∀ (l0 l1 l2 l3 l4 l5 : Option Value) (st : List Value) (h : sx_H), sx_back S 98 6 [l0, l1, l2, l3, l4, l5] st (some (.inr 2, h)) = some (.inr 2, h)) ∧
  (∀ (l0 l1 l2 l3 l4 l5 : Option Value) (st : List Value) (h : sx_H), sx_back S 98 6 [l0, l1, l2, l3, l4, l5] st (some (.inr 3, h)) = some (.inr 3, h)) ∧
  (∀ (l0 l1 l2 l3 l4 l5 : Option Value) (st : List Value) (h : sx_H), sx_back S 98 6 [l0, l1, l2, l3, l4, l5] st (some (.inr 4, h)) = some (.inr 4, h)) ∧
  (∀ (l0 l1 l2 l3 l4 l5 : Option Value) (s0 : Int32) (h : sx_H), sx_Ev S 98 9 [l0, l1, l2, l3, l4, l5] [.int s0] h = some (.inl (some (.int s0)), h)) ∧
  (∀ (l0 l1 l2 l3 l4 l5 : Option Value) (h : sx_H), sx_Ev S 98 12 [l0, l1, l2, l3, l4, l5] [] h = sx_Ev S 98 14 [l0, l1, l2, l3, l4, l5] [.int (sz (-900001))] h) ∧
  (∀ (l0 l1 l2 l3 l4 l5 : Option Value) (s0 : Int32) (h : sx_H), sx_Ev S 98 14 [l0, l1, l2, l3, l4, l5] [.int s0] h = some (.inl (some (.int s0)), h)) ∧
  (∀ (l0 l1 l2 l3 l4 l5 : Option Value) (h : sx_H), sx_Ev S 98 17 [l0, l1, l2, l3, l4, l5] [] h = sx_Ev S 98 19 [l0, l1, l2, l3, l4, l5] [.int (sz (-900002))] h) ∧
  (∀ (l0 l1 l2 l3 l4 l5 : Option Value) (s0 : Int32) (h : sx_H), sx_Ev S 98 19 [l0, l1, l2, l3, l4, l5] [.int s0] h = some (.inl (some (.int s0)), h)) := ⟨fun _ _ _ _ _ _ _ => sx_e_nx rfl rfl,
  fun _ _ _ _ _ _ _ _ => sx_e_nx rfl rfl,
  fun _ _ _ _ _ _ _ _ _ => sx_e_nx rfl rfl,
  fun _ _ _ _ _ _ _ _ _ _ => sx_e_nx rfl rfl,
  fun _ _ _ _ _ _ _ _ _ _ _ => sx_e_nx rfl rfl,
  fun _ _ _ _ _ _ _ _ _ _ _ _ hv => sx_e_virt rfl rfl ⟨Nat.le_of_ble_eq_true rfl, Nat.le_of_ble_eq_true rfl, rfl⟩ rfl rfl rfl hv,
  fun _ _ _ _ => rfl,
  fun _ _ _ _ _ _ _ _ => rfl,
  fun _ _ _ _ _ _ _ _ => rfl,
  fun _ _ _ _ _ _ _ _ => rfl,
  fun _ _ _ _ _ _ _ _ => rfl,
  fun _ _ _ _ _ _ _ _ => rfl,
  fun _ _ _ _ _ _ _ _ => sx_e_ret rfl rfl rfl,
  fun _ _ _ _ _ _ _ => sx_e_ldc rfl rfl (by decide +kernel) rfl,
  fun _ _ _ _ _ _ _ _ => sx_e_ret rfl rfl rfl,
  fun _ _ _ _ _ _ _ => sx_e_ldc rfl rfl (by decide +kernel) rfl,
  fun _ _ _ _ _ _ _ _ => sx_e_ret rfl rfl rfl⟩
/-- 99: L_thread (LBeadslant;I)I -/
theorem c99_q (S : List Int32) : ∀ (a0 : Nat) (a1 : Int32) (h : sx_H), sx_Cl S 99 [.ref a0, .int a1] h = sx_Ev S 99 0 [some (.ref a0), some (.int a1), none] [] h := fun _ _ _ => rfl
theorem q99 (S : List Int32) : (∀ (l1 l2 : Option Value) (x : Nat) (h : sx_H), sx_Ev S 99 0 [some (.ref x), l1, l2] [] h = sx_Ev S 99 1 [some (.ref x), l1, l2] [.ref x] h) ∧
  (∀ (l0 l2 : Option Value) (s0 : Nat) (x : Int32) (h : sx_H), sx_Ev S 99 1 [l0, some (.int x), l2] [.ref s0] h = sx_Ev S 99 2 [l0, some (.int x), l2] [.int x, .ref s0] h) ∧
  (∀ (l0 l1 l2 : Option Value) (s0 : Int32) (s1 : Nat) (h : sx_H), sx_klass h s1 = some 6 → sx_Ev S 99 2 [l0, l1, l2] [.int s0, .ref s1] h = sx_back S 99 2 [l0, l1, l2] [] (sx_Cl S 68 [.ref s1, .int s0] h)) ∧
  (∀ (ls : sx_L) (st : List Value) (v : Value) (h : sx_H), sx_back S 99 2 ls st (some (.inl (some v), h)) = sx_Ev S 99 5 ls (v :: st) h) ∧
  (∀ (l0 l1 l2 : Option Value) (st : List Value) (h : sx_H), sx_back S 99 2 [l0, l1, l2] st (some (.inr 0, h)) = sx_Ev S 99 7 [l0, l1, none] [] h) ∧
  (∀ (l0 l1 l2 : Option Value) (st : List Value) (h : sx_H), sx_back S 99 2 [l0, l1, l2] st (some (.inr 1, h)) = sx_Ev S 99 11 [l0, l1, none] [] h) ∧
  (∀ (l0 l1 l2 : Option Value) (st : List Value) (h : sx_H), sx_back S 99 2 [l0, l1, l2] st (some (.inr 2, h)) = some (.inr 2, h)) ∧
  (∀ (l0 l1 l2 : Option Value) (st : List Value) (h : sx_H), sx_back S 99 2 [l0, l1, l2] st (some (.inr 3, h)) = some (.inr 3, h)) ∧
  (∀ (l0 l1 l2 : Option Value) (st : List Value) (h : sx_H), sx_back S 99 2 [l0, l1, l2] st (some (.inr 4, h)) = some (.inr 4, h)) ∧
  (∀ (l0 l1 l2 : Option Value) (s0 : Int32) (h : sx_H), sx_Ev S 99 5 [l0, l1, l2] [.int s0] h = some (.inl (some (.int s0)), h)) ∧
  (∀ (l0 l1 l2 : Option Value) (h : sx_H), sx_Ev S 99 7 [l0, l1, l2] [] h = sx_Ev S 99 9 [l0, l1, l2] [.int (sz (-900001))] h) ∧
  (∀ (l0 l1 l2 : Option Value) (s0 : Int32) (h : sx_H), sx_Ev S 99 9 [l0, l1, l2] [.int s0] h = some (.inl (some (.int s0)), h)) ∧
  (∀ (l0 l1 l2 : Option Value) (h : sx_H), sx_Ev S 99 11 [l0, l1, l2] [] h = sx_Ev S 99 13 [l0, l1, l2] [.int (sz (-900002))] h) ∧
  (∀ (l0 l1 l2 : Option Value) (s0 : Int32) (h : sx_H), sx_Ev S 99 13 [l0, l1, l2] [.int s0] h = some (.inl (some (.int s0)), h)) := ⟨fun _ _ _ _ => sx_e_nx rfl rfl,
  fun _ _ _ _ _ => sx_e_nx rfl rfl,
  fun _ _ _ _ _ _ hv => sx_e_virt rfl rfl ⟨Nat.le_of_ble_eq_true rfl, Nat.le_of_ble_eq_true rfl, rfl⟩ rfl rfl rfl hv,
  fun _ _ _ _ => rfl,
  fun _ _ _ _ _ => rfl,
  fun _ _ _ _ _ => rfl,
  fun _ _ _ _ _ => rfl,
  fun _ _ _ _ _ => rfl,
  fun _ _ _ _ _ => rfl,
  fun _ _ _ _ _ => sx_e_ret rfl rfl rfl,
  fun _ _ _ _ => sx_e_ldc rfl rfl (by decide +kernel) rfl,
  fun _ _ _ _ _ => sx_e_ret rfl rfl rfl,
  fun _ _ _ _ => sx_e_ldc rfl rfl (by decide +kernel) rfl,
  fun _ _ _ _ _ => sx_e_ret rfl rfl rfl⟩
/-- 100: L_addCloth (LBeadslant;CII)I -/
theorem c100_q (S : List Int32) : ∀ (a0 : Nat) (a1 : Int32) (a2 : Int32) (a3 : Int32) (h : sx_H), sx_Cl S 100 [.ref a0, .int a1, .int a2, .int a3] h = sx_Ev S 100 0 [some (.ref a0), some (.int a1), some (.int a2), some (.int a3), none] [] h := fun _ _ _ _ _ => rfl
theorem q100 (S : List Int32) : (∀ (l1 l2 l3 l4 : Option Value) (x : Nat) (h : sx_H), sx_Ev S 100 0 [some (.ref x), l1, l2, l3, l4] [] h = sx_Ev S 100 1 [some (.ref x), l1, l2, l3, l4] [.ref x] h) ∧
  (∀ (l0 l2 l3 l4 : Option Value) (s0 : Nat) (x : Int32) (h : sx_H), sx_Ev S 100 1 [l0, some (.int x), l2, l3, l4] [.ref s0] h = sx_Ev S 100 2 [l0, some (.int x), l2, l3, l4] [.int x, .ref s0] h) ∧
  (∀ (l0 l1 l3 l4 : Option Value) (s0 : Int32) (s1 : Nat) (x : Int32) (h : sx_H), sx_Ev S 100 2 [l0, l1, some (.int x), l3, l4] [.int s0, .ref s1] h = sx_Ev S 100 3 [l0, l1, some (.int x), l3, l4] [.int x, .int s0, .ref s1] h) ∧
  (∀ (l0 l1 l2 l4 : Option Value) (s0 : Int32) (s1 : Int32) (s2 : Nat) (x : Int32) (h : sx_H), sx_Ev S 100 3 [l0, l1, l2, some (.int x), l4] [.int s0, .int s1, .ref s2] h = sx_Ev S 100 4 [l0, l1, l2, some (.int x), l4] [.int x, .int s0, .int s1, .ref s2] h) ∧
  (∀ (l0 l1 l2 l3 l4 : Option Value) (s0 : Int32) (s1 : Int32) (s2 : Int32) (s3 : Nat) (h : sx_H), sx_klass h s3 = some 6 → sx_Ev S 100 4 [l0, l1, l2, l3, l4] [.int s0, .int s1, .int s2, .ref s3] h = sx_back S 100 4 [l0, l1, l2, l3, l4] [] (sx_Cl S 69 [.ref s3, .int s2, .int s1, .int s0] h)) ∧
  (∀ (ls : sx_L) (st : List Value) (v : Value) (h : sx_H), sx_back S 100 4 ls st (some (.inl (some v), h)) = sx_Ev S 100 7 ls (v :: st) h) ∧
  (∀ (l0 l1 l2 l3 l4 : Option Value) (st : List Value) (h : sx_H), sx_back S 100 4 [l0, l1, l2, l3, l4] st (some (.inr 0, h)) = sx_Ev S 100 10 [l0, l1, l2, l3, none] [] h) ∧
  (∀ (l0 l1 l2 l3 l4 : Option Value) (st : List Value) (h : sx_H), sx_back S 100 4 [l0, l1, l2, l3, l4] st (some (.inr 1, h)) = sx_Ev S 100 15 [l0, l1, l2, l3, none] [] h) ∧
  (∀ (l0 l1 l2 l3 l4 : Option Value) (st : List Value) (h : sx_H), sx_back S 100 4 [l0, l1, l2, l3, l4] st (some (.inr 2, h)) = some (.inr 2, h)) ∧
  (∀ (l0 l1 l2 l3 l4 : Option Value) (st : List Value) (h : sx_H), sx_back S 100 4 [l0, l1, l2, l3, l4] st (some (.inr 3, h)) = some (.inr 3, h)) ∧
  (∀ (l0 l1 l2 l3 l4 : Option Value) (st : List Value) (h : sx_H), sx_back S 100 4 [l0, l1, l2, l3, l4] st (some (.inr 4, h)) = some (.inr 4, h)) ∧
  (∀ (l0 l1 l2 l3 l4 : Option Value) (s0 : Int32) (h : sx_H), sx_Ev S 100 7 [l0, l1, l2, l3, l4] [.int s0] h = some (.inl (some (.int s0)), h)) ∧
  (∀ (l0 l1 l2 l3 l4 : Option Value) (h : sx_H), sx_Ev S 100 10 [l0, l1, l2, l3, l4] [] h = sx_Ev S 100 12 [l0, l1, l2, l3, l4] [.int (sz (-900001))] h) ∧
  (∀ (l0 l1 l2 l3 l4 : Option Value) (s0 : Int32) (h : sx_H), sx_Ev S 100 12 [l0, l1, l2, l3, l4] [.int s0] h = some (.inl (some (.int s0)), h)) ∧
  (∀ (l0 l1 l2 l3 l4 : Option Value) (h : sx_H), sx_Ev S 100 15 [l0, l1, l2, l3, l4] [] h = sx_Ev S 100 17 [l0, l1, l2, l3, l4] [.int (sz (-900002))] h) ∧
  (∀ (l0 l1 l2 l3 l4 : Option Value) (s0 : Int32) (h : sx_H), sx_Ev S 100 17 [l0, l1, l2, l3, l4] [.int s0] h = some (.inl (some (.int s0)), h)) := ⟨fun _ _ _ _ _ _ => sx_e_nx rfl rfl,
  fun _ _ _ _ _ _ _ => sx_e_nx rfl rfl,
  fun _ _ _ _ _ _ _ _ => sx_e_nx rfl rfl,
  fun _ _ _ _ _ _ _ _ _ => sx_e_nx rfl rfl,
  fun _ _ _ _ _ _ _ _ _ _ hv => sx_e_virt rfl rfl ⟨Nat.le_of_ble_eq_true rfl, Nat.le_of_ble_eq_true rfl, rfl⟩ rfl rfl rfl hv,
  fun _ _ _ _ => rfl,
  fun _ _ _ _ _ _ _ => rfl,
  fun _ _ _ _ _ _ _ => rfl,
  fun _ _ _ _ _ _ _ => rfl,
  fun _ _ _ _ _ _ _ => rfl,
  fun _ _ _ _ _ _ _ => rfl,
  fun _ _ _ _ _ _ _ => sx_e_ret rfl rfl rfl,
  fun _ _ _ _ _ _ => sx_e_ldc rfl rfl (by decide +kernel) rfl,
  fun _ _ _ _ _ _ _ => sx_e_ret rfl rfl rfl,
  fun _ _ _ _ _ _ => sx_e_ldc rfl rfl (by decide +kernel) rfl,
  fun _ _ _ _ _ _ _ => sx_e_ret rfl rfl rfl⟩
/-- 101: L_draw (LBeadslant;IIII)I -/
theorem c101_q (S : List Int32) : ∀ (a0 : Nat) (a1 : Int32) (a2 : Int32) (a3 : Int32) (a4 : Int32) (h : sx_H), sx_Cl S 101 [.ref a0, .int a1, .int a2, .int a3, .int a4] h = sx_Ev S 101 0 [some (.ref a0), some (.int a1), some (.int a2), some (.int a3), some (.int a4), none] [] h := fun _ _ _ _ _ _ => rfl
theorem q101 (S : List Int32) : (∀ (l1 l2 l3 l4 l5 : Option Value) (x : Nat) (h : sx_H), sx_Ev S 101 0 [some (.ref x), l1, l2, l3, l4, l5] [] h = sx_Ev S 101 1 [some (.ref x), l1, l2, l3, l4, l5] [.ref x] h) ∧
  (∀ (l0 l2 l3 l4 l5 : Option Value) (s0 : Nat) (x : Int32) (h : sx_H), sx_Ev S 101 1 [l0, some (.int x), l2, l3, l4, l5] [.ref s0] h = sx_Ev S 101 2 [l0, some (.int x), l2, l3, l4, l5] [.int x, .ref s0] h) ∧
  (∀ (l0 l1 l3 l4 l5 : Option Value) (s0 : Int32) (s1 : Nat) (x : Int32) (h : sx_H), sx_Ev S 101 2 [l0, l1, some (.int x), l3, l4, l5] [.int s0, .ref s1] h = sx_Ev S 101 3 [l0, l1, some (.int x), l3, l4, l5] [.int x, .int s0, .ref s1] h) ∧
  (∀ (l0 l1 l2 l4 l5 : Option Value) (s0 : Int32) (s1 : Int32) (s2 : Nat) (x : Int32) (h : sx_H), sx_Ev S 101 3 [l0, l1, l2, some (.int x), l4, l5] [.int s0, .int s1, .ref s2] h = sx_Ev S 101 4 [l0, l1, l2, some (.int x), l4, l5] [.int x, .int s0, .int s1, .ref s2] h) ∧
  (∀ (l0 l1 l2 l3 l5 : Option Value) (s0 : Int32) (s1 : Int32) (s2 : Int32) (s3 : Nat) (x : Int32) (h : sx_H), sx_Ev S 101 4 [l0, l1, l2, l3, some (.int x), l5] [.int s0, .int s1, .int s2, .ref s3] h = sx_Ev S 101 6 [l0, l1, l2, l3, some (.int x), l5] [.int x, .int s0, .int s1, .int s2, .ref s3] h) ∧
  (∀ (l0 l1 l2 l3 l4 l5 : Option Value) (s0 : Int32) (s1 : Int32) (s2 : Int32) (s3 : Int32) (s4 : Nat) (h : sx_H), sx_klass h s4 = some 6 → sx_Ev S 101 6 [l0, l1, l2, l3, l4, l5] [.int s0, .int s1, .int s2, .int s3, .ref s4] h = sx_back S 101 6 [l0, l1, l2, l3, l4, l5] [] (sx_Cl S 74 [.ref s4, .int s3, .int s2, .int s1, .int s0] h)) ∧
  (∀ (ls : sx_L) (st : List Value) (v : Value) (h : sx_H), sx_back S 101 6 ls st (some (.inl (some v), h)) = sx_Ev S 101 9 ls (v :: st) h) ∧
  (∀ (l0 l1 l2 l3 l4 l5 : Option Value) (st : List Value) (h : sx_H), sx_back S 101 6 [l0, l1, l2, l3, l4, l5] st (some (.inr 0, h)) = some (.inr 0, h)) ∧
  (∀ (l0 l1 l2 l3 l4 l5 : Option Value) (st : List Value) (h : sx_H), sx_back S 101 6 [l0, l1, l2, l3, l4, l5] st (some (.inr 1, h)) = some (.inr 1, h)) ∧
  (∀ (l0 l1 l2 l3 l4 l5 : Option Value) (st : List Value) (h : sx_H), sx_back S 101 6 [l0, l1, l2, l3, l4, l5] st (some (.inr 2, h)) = sx_Ev S 101 12 [l0, l1, l2, l3, l4, none] [] h) ∧
  (∀ (l0 l1 l2 l3 l4 l5 : Option Value) (st : List Value) (h : sx_H), sx_back S 101 6 [l0, l1, l2, l3, l4, l5] st (some (.inr 3, h)) = sx_Ev S 101 17 [l0, l1, l2, l3, l4, none] [] h) ∧
  (∀ (l0 l1 l2 l3 l4 l5 : Option Value) (st : List Value) (h : sx_H), sx_back S 101 6 [l0, l1, l2, l3, l4, l5] st (some (.inr 4, h)) = some (.inr 4, h)) ∧
  (∀ (l0 l1 l2 l3 l4 l5 : Option Value) (s0 : Int32) (h : sx_H), sx_Ev S 101 9 [l0, l1, l2, l3, l4, l5] [.int s0] h = some (.inl (some (.int s0)), h)) ∧
  (∀ (l0 l1 l2 l3 l4 l5 : Option Value) (h : sx_H), sx_Ev S 101 12 [l0, l1, l2, l3, l4, l5] [] h = sx_Ev S 101 14 [l0, l1, l2, l3, l4, l5] [.int (sz (-900001))] h) ∧
  (∀ (l0 l1 l2 l3 l4 l5 : Option Value) (s0 : Int32) (h : sx_H), sx_Ev S 101 14 [l0, l1, l2, l3, l4, l5] [.int s0] h = some (.inl (some (.int s0)), h)) ∧
  (∀ (l0 l1 l2 l3 l4 l5 : Option Value) (h : sx_H), sx_Ev S 101 17 [l0, l1, l2, l3, l4, l5] [] h = sx_Ev S 101 19 [l0, l1, l2, l3, l4, l5] [.int (sz (-900002))] h) ∧
  (∀ (l0 l1 l2 l3 l4 l5 : Option Value) (s0 : Int32) (h : sx_H), sx_Ev S 101 19 [l0, l1, l2, l3, l4, l5] [.int s0] h = some (.inl (some (.int s0)), h)) := ⟨fun _ _ _ _ _ _ _ => sx_e_nx rfl rfl,
  fun _ _ _ _ _ _ _ _ => sx_e_nx rfl rfl,
  fun _ _ _ _ _ _ _ _ _ => sx_e_nx rfl rfl,
  fun _ _ _ _ _ _ _ _ _ _ => sx_e_nx rfl rfl,
  fun _ _ _ _ _ _ _ _ _ _ _ => sx_e_nx rfl rfl,
  fun _ _ _ _ _ _ _ _ _ _ _ _ hv => sx_e_virt rfl rfl ⟨Nat.le_of_ble_eq_true rfl, Nat.le_of_ble_eq_true rfl, rfl⟩ rfl rfl rfl hv,
  fun _ _ _ _ => rfl,
  fun _ _ _ _ _ _ _ _ => rfl,
  fun _ _ _ _ _ _ _ _ => rfl,
  fun _ _ _ _ _ _ _ _ => rfl,
  fun _ _ _ _ _ _ _ _ => rfl,
  fun _ _ _ _ _ _ _ _ => rfl,
  fun _ _ _ _ _ _ _ _ => sx_e_ret rfl rfl rfl,
  fun _ _ _ _ _ _ _ => sx_e_ldc rfl rfl (by decide +kernel) rfl,
  fun _ _ _ _ _ _ _ _ => sx_e_ret rfl rfl rfl,
  fun _ _ _ _ _ _ _ => sx_e_ldc rfl rfl (by decide +kernel) rfl,
  fun _ _ _ _ _ _ _ _ => sx_e_ret rfl rfl rfl⟩
/-- 102: L_kindAt (LBeadslant;III)I -/
theorem c102_q (S : List Int32) : ∀ (a0 : Nat) (a1 : Int32) (a2 : Int32) (a3 : Int32) (h : sx_H), sx_Cl S 102 [.ref a0, .int a1, .int a2, .int a3] h = sx_Ev S 102 0 [some (.ref a0), some (.int a1), some (.int a2), some (.int a3), none] [] h := fun _ _ _ _ _ => rfl
theorem q102 (S : List Int32) : (∀ (l1 l2 l3 l4 : Option Value) (x : Nat) (h : sx_H), sx_Ev S 102 0 [some (.ref x), l1, l2, l3, l4] [] h = sx_Ev S 102 1 [some (.ref x), l1, l2, l3, l4] [.ref x] h) ∧
  (∀ (l0 l2 l3 l4 : Option Value) (s0 : Nat) (x : Int32) (h : sx_H), sx_Ev S 102 1 [l0, some (.int x), l2, l3, l4] [.ref s0] h = sx_Ev S 102 2 [l0, some (.int x), l2, l3, l4] [.int x, .ref s0] h) ∧
  (∀ (l0 l1 l3 l4 : Option Value) (s0 : Int32) (s1 : Nat) (x : Int32) (h : sx_H), sx_Ev S 102 2 [l0, l1, some (.int x), l3, l4] [.int s0, .ref s1] h = sx_Ev S 102 3 [l0, l1, some (.int x), l3, l4] [.int x, .int s0, .ref s1] h) ∧
  (∀ (l0 l1 l2 l4 : Option Value) (s0 : Int32) (s1 : Int32) (s2 : Nat) (x : Int32) (h : sx_H), sx_Ev S 102 3 [l0, l1, l2, some (.int x), l4] [.int s0, .int s1, .ref s2] h = sx_Ev S 102 4 [l0, l1, l2, some (.int x), l4] [.int x, .int s0, .int s1, .ref s2] h) ∧
  (∀ (l0 l1 l2 l3 l4 : Option Value) (s0 : Int32) (s1 : Int32) (s2 : Int32) (s3 : Nat) (h : sx_H), sx_klass h s3 = some 6 → sx_Ev S 102 4 [l0, l1, l2, l3, l4] [.int s0, .int s1, .int s2, .ref s3] h = sx_back S 102 4 [l0, l1, l2, l3, l4] [] (sx_Cl S 75 [.ref s3, .int s2, .int s1, .int s0] h)) ∧
  (∀ (ls : sx_L) (st : List Value) (v : Value) (h : sx_H), sx_back S 102 4 ls st (some (.inl (some v), h)) = sx_Ev S 102 7 ls (v :: st) h) ∧
  (∀ (l0 l1 l2 l3 l4 : Option Value) (st : List Value) (h : sx_H), sx_back S 102 4 [l0, l1, l2, l3, l4] st (some (.inr 0, h)) = some (.inr 0, h)) ∧
  (∀ (l0 l1 l2 l3 l4 : Option Value) (st : List Value) (h : sx_H), sx_back S 102 4 [l0, l1, l2, l3, l4] st (some (.inr 1, h)) = some (.inr 1, h)) ∧
  (∀ (l0 l1 l2 l3 l4 : Option Value) (st : List Value) (h : sx_H), sx_back S 102 4 [l0, l1, l2, l3, l4] st (some (.inr 2, h)) = sx_Ev S 102 10 [l0, l1, l2, l3, none] [] h) ∧
  (∀ (l0 l1 l2 l3 l4 : Option Value) (st : List Value) (h : sx_H), sx_back S 102 4 [l0, l1, l2, l3, l4] st (some (.inr 3, h)) = some (.inr 3, h)) ∧
  (∀ (l0 l1 l2 l3 l4 : Option Value) (st : List Value) (h : sx_H), sx_back S 102 4 [l0, l1, l2, l3, l4] st (some (.inr 4, h)) = some (.inr 4, h)) ∧
  (∀ (l0 l1 l2 l3 l4 : Option Value) (s0 : Int32) (h : sx_H), sx_Ev S 102 7 [l0, l1, l2, l3, l4] [.int s0] h = some (.inl (some (.int s0)), h)) ∧
  (∀ (l0 l1 l2 l3 l4 : Option Value) (h : sx_H), sx_Ev S 102 10 [l0, l1, l2, l3, l4] [] h = sx_Ev S 102 12 [l0, l1, l2, l3, l4] [.int (sz (-900001))] h) ∧
  (∀ (l0 l1 l2 l3 l4 : Option Value) (s0 : Int32) (h : sx_H), sx_Ev S 102 12 [l0, l1, l2, l3, l4] [.int s0] h = some (.inl (some (.int s0)), h)) := ⟨fun _ _ _ _ _ _ => sx_e_nx rfl rfl,
  fun _ _ _ _ _ _ _ => sx_e_nx rfl rfl,
  fun _ _ _ _ _ _ _ _ => sx_e_nx rfl rfl,
  fun _ _ _ _ _ _ _ _ _ => sx_e_nx rfl rfl,
  fun _ _ _ _ _ _ _ _ _ _ hv => sx_e_virt rfl rfl ⟨Nat.le_of_ble_eq_true rfl, Nat.le_of_ble_eq_true rfl, rfl⟩ rfl rfl rfl hv,
  fun _ _ _ _ => rfl,
  fun _ _ _ _ _ _ _ => rfl,
  fun _ _ _ _ _ _ _ => rfl,
  fun _ _ _ _ _ _ _ => rfl,
  fun _ _ _ _ _ _ _ => rfl,
  fun _ _ _ _ _ _ _ => rfl,
  fun _ _ _ _ _ _ _ => sx_e_ret rfl rfl rfl,
  fun _ _ _ _ _ _ => sx_e_ldc rfl rfl (by decide +kernel) rfl,
  fun _ _ _ _ _ _ _ => sx_e_ret rfl rfl rfl⟩
/-- 103: L_motif (LBeadslant;IIII)I -/
theorem c103_q (S : List Int32) : ∀ (a0 : Nat) (a1 : Int32) (a2 : Int32) (a3 : Int32) (a4 : Int32) (h : sx_H), sx_Cl S 103 [.ref a0, .int a1, .int a2, .int a3, .int a4] h = sx_Ev S 103 0 [some (.ref a0), some (.int a1), some (.int a2), some (.int a3), some (.int a4), none] [] h := fun _ _ _ _ _ _ => rfl
theorem q103 (S : List Int32) : (∀ (l1 l2 l3 l4 l5 : Option Value) (x : Nat) (h : sx_H), sx_Ev S 103 0 [some (.ref x), l1, l2, l3, l4, l5] [] h = sx_Ev S 103 1 [some (.ref x), l1, l2, l3, l4, l5] [.ref x] h) ∧
  (∀ (l0 l2 l3 l4 l5 : Option Value) (s0 : Nat) (x : Int32) (h : sx_H), sx_Ev S 103 1 [l0, some (.int x), l2, l3, l4, l5] [.ref s0] h = sx_Ev S 103 2 [l0, some (.int x), l2, l3, l4, l5] [.int x, .ref s0] h) ∧
  (∀ (l0 l1 l3 l4 l5 : Option Value) (s0 : Int32) (s1 : Nat) (x : Int32) (h : sx_H), sx_Ev S 103 2 [l0, l1, some (.int x), l3, l4, l5] [.int s0, .ref s1] h = sx_Ev S 103 3 [l0, l1, some (.int x), l3, l4, l5] [.int x, .int s0, .ref s1] h) ∧
  (∀ (l0 l1 l2 l4 l5 : Option Value) (s0 : Int32) (s1 : Int32) (s2 : Nat) (x : Int32) (h : sx_H), sx_Ev S 103 3 [l0, l1, l2, some (.int x), l4, l5] [.int s0, .int s1, .ref s2] h = sx_Ev S 103 4 [l0, l1, l2, some (.int x), l4, l5] [.int x, .int s0, .int s1, .ref s2] h) ∧
  (∀ (l0 l1 l2 l3 l5 : Option Value) (s0 : Int32) (s1 : Int32) (s2 : Int32) (s3 : Nat) (x : Int32) (h : sx_H), sx_Ev S 103 4 [l0, l1, l2, l3, some (.int x), l5] [.int s0, .int s1, .int s2, .ref s3] h = sx_Ev S 103 6 [l0, l1, l2, l3, some (.int x), l5] [.int x, .int s0, .int s1, .int s2, .ref s3] h) ∧
  (∀ (l0 l1 l2 l3 l4 l5 : Option Value) (s0 : Int32) (s1 : Int32) (s2 : Int32) (s3 : Int32) (s4 : Nat) (h : sx_H), sx_klass h s4 = some 6 → sx_Ev S 103 6 [l0, l1, l2, l3, l4, l5] [.int s0, .int s1, .int s2, .int s3, .ref s4] h = sx_back S 103 6 [l0, l1, l2, l3, l4, l5] [] (sx_Cl S 76 [.ref s4, .int s3, .int s2, .int s1, .int s0] h)) ∧
  (∀ (ls : sx_L) (st : List Value) (v : Value) (h : sx_H), sx_back S 103 6 ls st (some (.inl (some v), h)) = sx_Ev S 103 9 ls (v :: st) h) ∧
  (∀ (l0 l1 l2 l3 l4 l5 : Option Value) (st : List Value) (h : sx_H), sx_back S 103 6 [l0, l1, l2, l3, l4, l5] st (some (.inr 0, h)) = sx_Ev S 103 17 [l0, l1, l2, l3, l4, none] [] h) ∧
  (∀ (l0 l1 l2 l3 l4 l5 : Option Value) (st : List Value) (h : sx_H), sx_back S 103 6 [l0, l1, l2, l3, l4, l5] st (some (.inr 1, h)) = some (.inr 1, h)) ∧
  (∀ (l0 l1 l2 l3 l4 l5 : Option Value) (st : List Value) (h : sx_H), sx_back S 103 6 [l0, l1, l2, l3, l4, l5] st (some (.inr 2, h)) = sx_Ev S 103 12 [l0, l1, l2, l3, l4, none] [] h) ∧
  (∀ (l0 l1 l2 l3 l4 l5 : Option Value) (st : List Value) (h : sx_H), sx_back S 103 6 [l0, l1, l2, l3, l4, l5] st (some (.inr 3, h)) = sx_Ev S 103 22 [l0, l1, l2, l3, l4, none] [] h) ∧
  (∀ (l0 l1 l2 l3 l4 l5 : Option Value) (st : List Value) (h : sx_H), sx_back S 103 6 [l0, l1, l2, l3, l4, l5] st (some (.inr 4, h)) = some (.inr 4, h)) ∧
  (∀ (l0 l1 l2 l3 l4 l5 : Option Value) (s0 : Int32) (h : sx_H), sx_Ev S 103 9 [l0, l1, l2, l3, l4, l5] [.int s0] h = some (.inl (some (.int s0)), h)) ∧
  (∀ (l0 l1 l2 l3 l4 l5 : Option Value) (h : sx_H), sx_Ev S 103 12 [l0, l1, l2, l3, l4, l5] [] h = sx_Ev S 103 14 [l0, l1, l2, l3, l4, l5] [.int (sz (-900001))] h) ∧
  (∀ (l0 l1 l2 l3 l4 l5 : Option Value) (s0 : Int32) (h : sx_H), sx_Ev S 103 14 [l0, l1, l2, l3, l4, l5] [.int s0] h = some (.inl (some (.int s0)), h)) ∧
  (∀ (l0 l1 l2 l3 l4 l5 : Option Value) (h : sx_H), sx_Ev S 103 17 [l0, l1, l2, l3, l4, l5] [] h = sx_Ev S 103 19 [l0, l1, l2, l3, l4, l5] [.int (sz (-900002))] h) ∧
  (∀ (l0 l1 l2 l3 l4 l5 : Option Value) (s0 : Int32) (h : sx_H), sx_Ev S 103 19 [l0, l1, l2, l3, l4, l5] [.int s0] h = some (.inl (some (.int s0)), h)) ∧
  (∀ (l0 l1 l2 l3 l4 l5 : Option Value) (h : sx_H), sx_Ev S 103 22 [l0, l1, l2, l3, l4, l5] [] h = sx_Ev S 103 24 [l0, l1, l2, l3, l4, l5] [.int (sz (-900003))] h) ∧
  (∀ (l0 l1 l2 l3 l4 l5 : Option Value) (s0 : Int32) (h : sx_H), sx_Ev S 103 24 [l0, l1, l2, l3, l4, l5] [.int s0] h = some (.inl (some (.int s0)), h)) := ⟨fun _ _ _ _ _ _ _ => sx_e_nx rfl rfl,
  fun _ _ _ _ _ _ _ _ => sx_e_nx rfl rfl,
  fun _ _ _ _ _ _ _ _ _ => sx_e_nx rfl rfl,
  fun _ _ _ _ _ _ _ _ _ _ => sx_e_nx rfl rfl,
  fun _ _ _ _ _ _ _ _ _ _ _ => sx_e_nx rfl rfl,
  fun _ _ _ _ _ _ _ _ _ _ _ _ hv => sx_e_virt rfl rfl ⟨Nat.le_of_ble_eq_true rfl, Nat.le_of_ble_eq_true rfl, rfl⟩ rfl rfl rfl hv,
  fun _ _ _ _ => rfl,
  fun _ _ _ _ _ _ _ _ => rfl,
  fun _ _ _ _ _ _ _ _ => rfl,
  fun _ _ _ _ _ _ _ _ => rfl,
  fun _ _ _ _ _ _ _ _ => rfl,
  fun _ _ _ _ _ _ _ _ => rfl,
  fun _ _ _ _ _ _ _ _ => sx_e_ret rfl rfl rfl,
  fun _ _ _ _ _ _ _ => sx_e_ldc rfl rfl (by decide +kernel) rfl,
  fun _ _ _ _ _ _ _ _ => sx_e_ret rfl rfl rfl,
  fun _ _ _ _ _ _ _ => sx_e_ldc rfl rfl (by decide +kernel) rfl,
  fun _ _ _ _ _ _ _ _ => sx_e_ret rfl rfl rfl,
  fun _ _ _ _ _ _ _ => sx_e_ldc rfl rfl (by decide +kernel) rfl,
  fun _ _ _ _ _ _ _ _ => sx_e_ret rfl rfl rfl⟩
/-- 104: L_setRules (LBeadslant;II)I -/
theorem c104_q (S : List Int32) : ∀ (a0 : Nat) (a1 : Int32) (a2 : Int32) (h : sx_H), sx_Cl S 104 [.ref a0, .int a1, .int a2] h = sx_Ev S 104 0 [some (.ref a0), some (.int a1), some (.int a2), none] [] h := fun _ _ _ _ => rfl
theorem q104 (S : List Int32) : (∀ (l1 l2 l3 : Option Value) (x : Nat) (h : sx_H), sx_Ev S 104 0 [some (.ref x), l1, l2, l3] [] h = sx_Ev S 104 1 [some (.ref x), l1, l2, l3] [.ref x] h) ∧
  (∀ (l0 l2 l3 : Option Value) (s0 : Nat) (x : Int32) (h : sx_H), sx_Ev S 104 1 [l0, some (.int x), l2, l3] [.ref s0] h = sx_Ev S 104 2 [l0, some (.int x), l2, l3] [.int x, .ref s0] h) ∧
  (∀ (l0 l1 l3 : Option Value) (s0 : Int32) (s1 : Nat) (x : Int32) (h : sx_H), sx_Ev S 104 2 [l0, l1, some (.int x), l3] [.int s0, .ref s1] h = sx_Ev S 104 3 [l0, l1, some (.int x), l3] [.int x, .int s0, .ref s1] h) ∧
  (∀ (l0 l1 l2 l3 : Option Value) (s0 : Int32) (s1 : Int32) (s2 : Nat) (h : sx_H), sx_klass h s2 = some 6 → sx_Ev S 104 3 [l0, l1, l2, l3] [.int s0, .int s1, .ref s2] h = sx_back S 104 3 [l0, l1, l2, l3] [] (sx_Cl S 77 [.ref s2, .int s1, .int s0] h)) ∧
  (∀ (ls : sx_L) (st : List Value) (v : Value) (h : sx_H), sx_back S 104 3 ls st (some (.inl (some v), h)) = sx_Ev S 104 6 ls (v :: st) h) ∧
  (∀ (l0 l1 l2 l3 : Option Value) (st : List Value) (h : sx_H), sx_back S 104 3 [l0, l1, l2, l3] st (some (.inr 0, h)) = sx_Ev S 104 12 [l0, l1, l2, none] [] h) ∧
  (∀ (l0 l1 l2 l3 : Option Value) (st : List Value) (h : sx_H), sx_back S 104 3 [l0, l1, l2, l3] st (some (.inr 1, h)) = some (.inr 1, h)) ∧
  (∀ (l0 l1 l2 l3 : Option Value) (st : List Value) (h : sx_H), sx_back S 104 3 [l0, l1, l2, l3] st (some (.inr 2, h)) = sx_Ev S 104 8 [l0, l1, l2, none] [] h) ∧
  (∀ (l0 l1 l2 l3 : Option Value) (st : List Value) (h : sx_H), sx_back S 104 3 [l0, l1, l2, l3] st (some (.inr 3, h)) = some (.inr 3, h)) ∧
  (∀ (l0 l1 l2 l3 : Option Value) (st : List Value) (h : sx_H), sx_back S 104 3 [l0, l1, l2, l3] st (some (.inr 4, h)) = some (.inr 4, h)) ∧
  (∀ (l0 l1 l2 l3 : Option Value) (s0 : Int32) (h : sx_H), sx_Ev S 104 6 [l0, l1, l2, l3] [.int s0] h = some (.inl (some (.int s0)), h)) ∧
  (∀ (l0 l1 l2 l3 : Option Value) (h : sx_H), sx_Ev S 104 8 [l0, l1, l2, l3] [] h = sx_Ev S 104 10 [l0, l1, l2, l3] [.int (sz (-900001))] h) ∧
  (∀ (l0 l1 l2 l3 : Option Value) (s0 : Int32) (h : sx_H), sx_Ev S 104 10 [l0, l1, l2, l3] [.int s0] h = some (.inl (some (.int s0)), h)) ∧
  (∀ (l0 l1 l2 l3 : Option Value) (h : sx_H), sx_Ev S 104 12 [l0, l1, l2, l3] [] h = sx_Ev S 104 14 [l0, l1, l2, l3] [.int (sz (-900002))] h) ∧
  (∀ (l0 l1 l2 l3 : Option Value) (s0 : Int32) (h : sx_H), sx_Ev S 104 14 [l0, l1, l2, l3] [.int s0] h = some (.inl (some (.int s0)), h)) := ⟨fun _ _ _ _ _ => sx_e_nx rfl rfl,
  fun _ _ _ _ _ _ => sx_e_nx rfl rfl,
  fun _ _ _ _ _ _ _ => sx_e_nx rfl rfl,
  fun _ _ _ _ _ _ _ _ hv => sx_e_virt rfl rfl ⟨Nat.le_of_ble_eq_true rfl, Nat.le_of_ble_eq_true rfl, rfl⟩ rfl rfl rfl hv,
  fun _ _ _ _ => rfl,
  fun _ _ _ _ _ _ => rfl,
  fun _ _ _ _ _ _ => rfl,
  fun _ _ _ _ _ _ => rfl,
  fun _ _ _ _ _ _ => rfl,
  fun _ _ _ _ _ _ => rfl,
  fun _ _ _ _ _ _ => sx_e_ret rfl rfl rfl,
  fun _ _ _ _ _ => sx_e_ldc rfl rfl (by decide +kernel) rfl,
  fun _ _ _ _ _ _ => sx_e_ret rfl rfl rfl,
  fun _ _ _ _ _ => sx_e_ldc rfl rfl (by decide +kernel) rfl,
  fun _ _ _ _ _ _ => sx_e_ret rfl rfl rfl⟩
/-- 105: L_broken (LBeadslant;II)I -/
theorem c105_q (S : List Int32) : ∀ (a0 : Nat) (a1 : Int32) (a2 : Int32) (h : sx_H), sx_Cl S 105 [.ref a0, .int a1, .int a2] h = sx_Ev S 105 0 [some (.ref a0), some (.int a1), some (.int a2), none] [] h := fun _ _ _ _ => rfl
theorem q105 (S : List Int32) : (∀ (l1 l2 l3 : Option Value) (x : Nat) (h : sx_H), sx_Ev S 105 0 [some (.ref x), l1, l2, l3] [] h = sx_Ev S 105 1 [some (.ref x), l1, l2, l3] [.ref x] h) ∧
  (∀ (l0 l2 l3 : Option Value) (s0 : Nat) (x : Int32) (h : sx_H), sx_Ev S 105 1 [l0, some (.int x), l2, l3] [.ref s0] h = sx_Ev S 105 2 [l0, some (.int x), l2, l3] [.int x, .ref s0] h) ∧
  (∀ (l0 l1 l3 : Option Value) (s0 : Int32) (s1 : Nat) (x : Int32) (h : sx_H), sx_Ev S 105 2 [l0, l1, some (.int x), l3] [.int s0, .ref s1] h = sx_Ev S 105 3 [l0, l1, some (.int x), l3] [.int x, .int s0, .ref s1] h) ∧
  (∀ (l0 l1 l2 l3 : Option Value) (s0 : Int32) (s1 : Int32) (s2 : Nat) (h : sx_H), sx_klass h s2 = some 6 → sx_Ev S 105 3 [l0, l1, l2, l3] [.int s0, .int s1, .ref s2] h = sx_back S 105 3 [l0, l1, l2, l3] [] (sx_Cl S 78 [.ref s2, .int s1, .int s0] h)) ∧
  (∀ (ls : sx_L) (st : List Value) (v : Value) (h : sx_H), sx_back S 105 3 ls st (some (.inl (some v), h)) = sx_Ev S 105 6 ls (v :: st) h) ∧
  (∀ (l0 l1 l2 l3 : Option Value) (st : List Value) (h : sx_H), sx_back S 105 3 [l0, l1, l2, l3] st (some (.inr 0, h)) = sx_Ev S 105 12 [l0, l1, l2, none] [] h) ∧
  (∀ (l0 l1 l2 l3 : Option Value) (st : List Value) (h : sx_H), sx_back S 105 3 [l0, l1, l2, l3] st (some (.inr 1, h)) = some (.inr 1, h)) ∧
  (∀ (l0 l1 l2 l3 : Option Value) (st : List Value) (h : sx_H), sx_back S 105 3 [l0, l1, l2, l3] st (some (.inr 2, h)) = sx_Ev S 105 8 [l0, l1, l2, none] [] h) ∧
  (∀ (l0 l1 l2 l3 : Option Value) (st : List Value) (h : sx_H), sx_back S 105 3 [l0, l1, l2, l3] st (some (.inr 3, h)) = some (.inr 3, h)) ∧
  (∀ (l0 l1 l2 l3 : Option Value) (st : List Value) (h : sx_H), sx_back S 105 3 [l0, l1, l2, l3] st (some (.inr 4, h)) = some (.inr 4, h)) ∧
  (∀ (l0 l1 l2 l3 : Option Value) (s0 : Int32) (h : sx_H), sx_Ev S 105 6 [l0, l1, l2, l3] [.int s0] h = some (.inl (some (.int s0)), h)) ∧
  (∀ (l0 l1 l2 l3 : Option Value) (h : sx_H), sx_Ev S 105 8 [l0, l1, l2, l3] [] h = sx_Ev S 105 10 [l0, l1, l2, l3] [.int (sz (-900001))] h) ∧
  (∀ (l0 l1 l2 l3 : Option Value) (s0 : Int32) (h : sx_H), sx_Ev S 105 10 [l0, l1, l2, l3] [.int s0] h = some (.inl (some (.int s0)), h)) ∧
  (∀ (l0 l1 l2 l3 : Option Value) (h : sx_H), sx_Ev S 105 12 [l0, l1, l2, l3] [] h = sx_Ev S 105 14 [l0, l1, l2, l3] [.int (sz (-900002))] h) ∧
  (∀ (l0 l1 l2 l3 : Option Value) (s0 : Int32) (h : sx_H), sx_Ev S 105 14 [l0, l1, l2, l3] [.int s0] h = some (.inl (some (.int s0)), h)) := ⟨fun _ _ _ _ _ => sx_e_nx rfl rfl,
  fun _ _ _ _ _ _ => sx_e_nx rfl rfl,
  fun _ _ _ _ _ _ _ => sx_e_nx rfl rfl,
  fun _ _ _ _ _ _ _ _ hv => sx_e_virt rfl rfl ⟨Nat.le_of_ble_eq_true rfl, Nat.le_of_ble_eq_true rfl, rfl⟩ rfl rfl rfl hv,
  fun _ _ _ _ => rfl,
  fun _ _ _ _ _ _ => rfl,
  fun _ _ _ _ _ _ => rfl,
  fun _ _ _ _ _ _ => rfl,
  fun _ _ _ _ _ _ => rfl,
  fun _ _ _ _ _ _ => rfl,
  fun _ _ _ _ _ _ => sx_e_ret rfl rfl rfl,
  fun _ _ _ _ _ => sx_e_ldc rfl rfl (by decide +kernel) rfl,
  fun _ _ _ _ _ _ => sx_e_ret rfl rfl rfl,
  fun _ _ _ _ _ => sx_e_ldc rfl rfl (by decide +kernel) rfl,
  fun _ _ _ _ _ _ => sx_e_ret rfl rfl rfl⟩
/-- 106: L_ways (LBeadslant;II)I -/
theorem c106_q (S : List Int32) : ∀ (a0 : Nat) (a1 : Int32) (a2 : Int32) (h : sx_H), sx_Cl S 106 [.ref a0, .int a1, .int a2] h = sx_Ev S 106 0 [some (.ref a0), some (.int a1), some (.int a2), none] [] h := fun _ _ _ _ => rfl
theorem q106 (S : List Int32) : (∀ (l1 l2 l3 : Option Value) (x : Nat) (h : sx_H), sx_Ev S 106 0 [some (.ref x), l1, l2, l3] [] h = sx_Ev S 106 1 [some (.ref x), l1, l2, l3] [.ref x] h) ∧
  (∀ (l0 l2 l3 : Option Value) (s0 : Nat) (x : Int32) (h : sx_H), sx_Ev S 106 1 [l0, some (.int x), l2, l3] [.ref s0] h = sx_Ev S 106 2 [l0, some (.int x), l2, l3] [.int x, .ref s0] h) ∧
  (∀ (l0 l1 l3 : Option Value) (s0 : Int32) (s1 : Nat) (x : Int32) (h : sx_H), sx_Ev S 106 2 [l0, l1, some (.int x), l3] [.int s0, .ref s1] h = sx_Ev S 106 3 [l0, l1, some (.int x), l3] [.int x, .int s0, .ref s1] h) ∧
  (∀ (l0 l1 l2 l3 : Option Value) (s0 : Int32) (s1 : Int32) (s2 : Nat) (h : sx_H), sx_klass h s2 = some 6 → sx_Ev S 106 3 [l0, l1, l2, l3] [.int s0, .int s1, .ref s2] h = sx_back S 106 3 [l0, l1, l2, l3] [] (sx_Cl S 80 [.ref s2, .int s1, .int s0] h)) ∧
  (∀ (ls : sx_L) (st : List Value) (v : Value) (h : sx_H), sx_back S 106 3 ls st (some (.inl (some v), h)) = sx_Ev S 106 6 ls (v :: st) h) ∧
  (∀ (l0 l1 l2 l3 : Option Value) (st : List Value) (h : sx_H), sx_back S 106 3 [l0, l1, l2, l3] st (some (.inr 0, h)) = sx_Ev S 106 12 [l0, l1, l2, none] [] h) ∧
  (∀ (l0 l1 l2 l3 : Option Value) (st : List Value) (h : sx_H), sx_back S 106 3 [l0, l1, l2, l3] st (some (.inr 1, h)) = some (.inr 1, h)) ∧
  (∀ (l0 l1 l2 l3 : Option Value) (st : List Value) (h : sx_H), sx_back S 106 3 [l0, l1, l2, l3] st (some (.inr 2, h)) = sx_Ev S 106 8 [l0, l1, l2, none] [] h) ∧
  (∀ (l0 l1 l2 l3 : Option Value) (st : List Value) (h : sx_H), sx_back S 106 3 [l0, l1, l2, l3] st (some (.inr 3, h)) = sx_Ev S 106 16 [l0, l1, l2, none] [] h) ∧
  (∀ (l0 l1 l2 l3 : Option Value) (st : List Value) (h : sx_H), sx_back S 106 3 [l0, l1, l2, l3] st (some (.inr 4, h)) = some (.inr 4, h)) ∧
  (∀ (l0 l1 l2 l3 : Option Value) (s0 : Int32) (h : sx_H), sx_Ev S 106 6 [l0, l1, l2, l3] [.int s0] h = some (.inl (some (.int s0)), h)) ∧
  (∀ (l0 l1 l2 l3 : Option Value) (h : sx_H), sx_Ev S 106 8 [l0, l1, l2, l3] [] h = sx_Ev S 106 10 [l0, l1, l2, l3] [.int (sz (-900001))] h) ∧
  (∀ (l0 l1 l2 l3 : Option Value) (s0 : Int32) (h : sx_H), sx_Ev S 106 10 [l0, l1, l2, l3] [.int s0] h = some (.inl (some (.int s0)), h)) ∧
  (∀ (l0 l1 l2 l3 : Option Value) (h : sx_H), sx_Ev S 106 12 [l0, l1, l2, l3] [] h = sx_Ev S 106 14 [l0, l1, l2, l3] [.int (sz (-900002))] h) ∧
  (∀ (l0 l1 l2 l3 : Option Value) (s0 : Int32) (h : sx_H), sx_Ev S 106 14 [l0, l1, l2, l3] [.int s0] h = some (.inl (some (.int s0)), h)) ∧
  (∀ (l0 l1 l2 l3 : Option Value) (h : sx_H), sx_Ev S 106 16 [l0, l1, l2, l3] [] h = sx_Ev S 106 18 [l0, l1, l2, l3] [.int (sz (-900003))] h) ∧
  (∀ (l0 l1 l2 l3 : Option Value) (s0 : Int32) (h : sx_H), sx_Ev S 106 18 [l0, l1, l2, l3] [.int s0] h = some (.inl (some (.int s0)), h)) := ⟨fun _ _ _ _ _ => sx_e_nx rfl rfl,
  fun _ _ _ _ _ _ => sx_e_nx rfl rfl,
  fun _ _ _ _ _ _ _ => sx_e_nx rfl rfl,
  fun _ _ _ _ _ _ _ _ hv => sx_e_virt rfl rfl ⟨Nat.le_of_ble_eq_true rfl, Nat.le_of_ble_eq_true rfl, rfl⟩ rfl rfl rfl hv,
  fun _ _ _ _ => rfl,
  fun _ _ _ _ _ _ => rfl,
  fun _ _ _ _ _ _ => rfl,
  fun _ _ _ _ _ _ => rfl,
  fun _ _ _ _ _ _ => rfl,
  fun _ _ _ _ _ _ => rfl,
  fun _ _ _ _ _ _ => sx_e_ret rfl rfl rfl,
  fun _ _ _ _ _ => sx_e_ldc rfl rfl (by decide +kernel) rfl,
  fun _ _ _ _ _ _ => sx_e_ret rfl rfl rfl,
  fun _ _ _ _ _ => sx_e_ldc rfl rfl (by decide +kernel) rfl,
  fun _ _ _ _ _ _ => sx_e_ret rfl rfl rfl,
  fun _ _ _ _ _ => sx_e_ldc rfl rfl (by decide +kernel) rfl,
  fun _ _ _ _ _ _ => sx_e_ret rfl rfl rfl⟩
/-- 107: L_fill (LBeadslant;II)I -/
theorem c107_q (S : List Int32) : ∀ (a0 : Nat) (a1 : Int32) (a2 : Int32) (h : sx_H), sx_Cl S 107 [.ref a0, .int a1, .int a2] h = sx_Ev S 107 0 [some (.ref a0), some (.int a1), some (.int a2), none] [] h := fun _ _ _ _ => rfl
theorem q107 (S : List Int32) : (∀ (l1 l2 l3 : Option Value) (x : Nat) (h : sx_H), sx_Ev S 107 0 [some (.ref x), l1, l2, l3] [] h = sx_Ev S 107 1 [some (.ref x), l1, l2, l3] [.ref x] h) ∧
  (∀ (l0 l2 l3 : Option Value) (s0 : Nat) (x : Int32) (h : sx_H), sx_Ev S 107 1 [l0, some (.int x), l2, l3] [.ref s0] h = sx_Ev S 107 2 [l0, some (.int x), l2, l3] [.int x, .ref s0] h) ∧
  (∀ (l0 l1 l3 : Option Value) (s0 : Int32) (s1 : Nat) (x : Int32) (h : sx_H), sx_Ev S 107 2 [l0, l1, some (.int x), l3] [.int s0, .ref s1] h = sx_Ev S 107 3 [l0, l1, some (.int x), l3] [.int x, .int s0, .ref s1] h) ∧
  (∀ (l0 l1 l2 l3 : Option Value) (s0 : Int32) (s1 : Int32) (s2 : Nat) (h : sx_H), sx_klass h s2 = some 6 → sx_Ev S 107 3 [l0, l1, l2, l3] [.int s0, .int s1, .ref s2] h = sx_back S 107 3 [l0, l1, l2, l3] [] (sx_Cl S 81 [.ref s2, .int s1, .int s0] h)) ∧
  (∀ (ls : sx_L) (st : List Value) (v : Value) (h : sx_H), sx_back S 107 3 ls st (some (.inl (some v), h)) = sx_Ev S 107 6 ls (v :: st) h) ∧
  (∀ (l0 l1 l2 l3 : Option Value) (st : List Value) (h : sx_H), sx_back S 107 3 [l0, l1, l2, l3] st (some (.inr 0, h)) = sx_Ev S 107 12 [l0, l1, l2, none] [] h) ∧
  (∀ (l0 l1 l2 l3 : Option Value) (st : List Value) (h : sx_H), sx_back S 107 3 [l0, l1, l2, l3] st (some (.inr 1, h)) = some (.inr 1, h)) ∧
  (∀ (l0 l1 l2 l3 : Option Value) (st : List Value) (h : sx_H), sx_back S 107 3 [l0, l1, l2, l3] st (some (.inr 2, h)) = sx_Ev S 107 8 [l0, l1, l2, none] [] h) ∧
  (∀ (l0 l1 l2 l3 : Option Value) (st : List Value) (h : sx_H), sx_back S 107 3 [l0, l1, l2, l3] st (some (.inr 3, h)) = sx_Ev S 107 16 [l0, l1, l2, none] [] h) ∧
  (∀ (l0 l1 l2 l3 : Option Value) (st : List Value) (h : sx_H), sx_back S 107 3 [l0, l1, l2, l3] st (some (.inr 4, h)) = sx_Ev S 107 20 [l0, l1, l2, none] [] h) ∧
  (∀ (l0 l1 l2 l3 : Option Value) (s0 : Int32) (h : sx_H), sx_Ev S 107 6 [l0, l1, l2, l3] [.int s0] h = some (.inl (some (.int s0)), h)) ∧
  (∀ (l0 l1 l2 l3 : Option Value) (h : sx_H), sx_Ev S 107 8 [l0, l1, l2, l3] [] h = sx_Ev S 107 10 [l0, l1, l2, l3] [.int (sz (-900001))] h) ∧
  (∀ (l0 l1 l2 l3 : Option Value) (s0 : Int32) (h : sx_H), sx_Ev S 107 10 [l0, l1, l2, l3] [.int s0] h = some (.inl (some (.int s0)), h)) ∧
  (∀ (l0 l1 l2 l3 : Option Value) (h : sx_H), sx_Ev S 107 12 [l0, l1, l2, l3] [] h = sx_Ev S 107 14 [l0, l1, l2, l3] [.int (sz (-900002))] h) ∧
  (∀ (l0 l1 l2 l3 : Option Value) (s0 : Int32) (h : sx_H), sx_Ev S 107 14 [l0, l1, l2, l3] [.int s0] h = some (.inl (some (.int s0)), h)) ∧
  (∀ (l0 l1 l2 l3 : Option Value) (h : sx_H), sx_Ev S 107 16 [l0, l1, l2, l3] [] h = sx_Ev S 107 18 [l0, l1, l2, l3] [.int (sz (-900003))] h) ∧
  (∀ (l0 l1 l2 l3 : Option Value) (s0 : Int32) (h : sx_H), sx_Ev S 107 18 [l0, l1, l2, l3] [.int s0] h = some (.inl (some (.int s0)), h)) ∧
  (∀ (l0 l1 l2 l3 : Option Value) (h : sx_H), sx_Ev S 107 20 [l0, l1, l2, l3] [] h = sx_Ev S 107 22 [l0, l1, l2, l3] [.int (sz (-900004))] h) ∧
  (∀ (l0 l1 l2 l3 : Option Value) (s0 : Int32) (h : sx_H), sx_Ev S 107 22 [l0, l1, l2, l3] [.int s0] h = some (.inl (some (.int s0)), h)) := ⟨fun _ _ _ _ _ => sx_e_nx rfl rfl,
  fun _ _ _ _ _ _ => sx_e_nx rfl rfl,
  fun _ _ _ _ _ _ _ => sx_e_nx rfl rfl,
  fun _ _ _ _ _ _ _ _ hv => sx_e_virt rfl rfl ⟨Nat.le_of_ble_eq_true rfl, Nat.le_of_ble_eq_true rfl, rfl⟩ rfl rfl rfl hv,
  fun _ _ _ _ => rfl,
  fun _ _ _ _ _ _ => rfl,
  fun _ _ _ _ _ _ => rfl,
  fun _ _ _ _ _ _ => rfl,
  fun _ _ _ _ _ _ => rfl,
  fun _ _ _ _ _ _ => rfl,
  fun _ _ _ _ _ _ => sx_e_ret rfl rfl rfl,
  fun _ _ _ _ _ => sx_e_ldc rfl rfl (by decide +kernel) rfl,
  fun _ _ _ _ _ _ => sx_e_ret rfl rfl rfl,
  fun _ _ _ _ _ => sx_e_ldc rfl rfl (by decide +kernel) rfl,
  fun _ _ _ _ _ _ => sx_e_ret rfl rfl rfl,
  fun _ _ _ _ _ => sx_e_ldc rfl rfl (by decide +kernel) rfl,
  fun _ _ _ _ _ _ => sx_e_ret rfl rfl rfl,
  fun _ _ _ _ _ => sx_e_ldc rfl rfl (by decide +kernel) rfl,
  fun _ _ _ _ _ _ => sx_e_ret rfl rfl rfl⟩
/-- 108: L_repeat (LBeadslant;I)I -/
theorem c108_q (S : List Int32) : ∀ (a0 : Nat) (a1 : Int32) (h : sx_H), sx_Cl S 108 [.ref a0, .int a1] h = sx_Ev S 108 0 [some (.ref a0), some (.int a1), none] [] h := fun _ _ _ => rfl
theorem q108 (S : List Int32) : (∀ (l1 l2 : Option Value) (x : Nat) (h : sx_H), sx_Ev S 108 0 [some (.ref x), l1, l2] [] h = sx_Ev S 108 1 [some (.ref x), l1, l2] [.ref x] h) ∧
  (∀ (l0 l2 : Option Value) (s0 : Nat) (x : Int32) (h : sx_H), sx_Ev S 108 1 [l0, some (.int x), l2] [.ref s0] h = sx_Ev S 108 2 [l0, some (.int x), l2] [.int x, .ref s0] h) ∧
  (∀ (l0 l1 l2 : Option Value) (s0 : Int32) (s1 : Nat) (h : sx_H), sx_klass h s1 = some 6 → sx_Ev S 108 2 [l0, l1, l2] [.int s0, .ref s1] h = sx_back S 108 2 [l0, l1, l2] [] (sx_Cl S 83 [.ref s1, .int s0] h)) ∧
  (∀ (ls : sx_L) (st : List Value) (v : Value) (h : sx_H), sx_back S 108 2 ls st (some (.inl (some v), h)) = sx_Ev S 108 5 ls (v :: st) h) ∧
  (∀ (l0 l1 l2 : Option Value) (st : List Value) (h : sx_H), sx_back S 108 2 [l0, l1, l2] st (some (.inr 0, h)) = some (.inr 0, h)) ∧
  (∀ (l0 l1 l2 : Option Value) (st : List Value) (h : sx_H), sx_back S 108 2 [l0, l1, l2] st (some (.inr 1, h)) = some (.inr 1, h)) ∧
  (∀ (l0 l1 l2 : Option Value) (st : List Value) (h : sx_H), sx_back S 108 2 [l0, l1, l2] st (some (.inr 2, h)) = sx_Ev S 108 7 [l0, l1, none] [] h) ∧
  (∀ (l0 l1 l2 : Option Value) (st : List Value) (h : sx_H), sx_back S 108 2 [l0, l1, l2] st (some (.inr 3, h)) = sx_Ev S 108 11 [l0, l1, none] [] h) ∧
  (∀ (l0 l1 l2 : Option Value) (st : List Value) (h : sx_H), sx_back S 108 2 [l0, l1, l2] st (some (.inr 4, h)) = some (.inr 4, h)) ∧
  (∀ (l0 l1 l2 : Option Value) (s0 : Int32) (h : sx_H), sx_Ev S 108 5 [l0, l1, l2] [.int s0] h = some (.inl (some (.int s0)), h)) ∧
  (∀ (l0 l1 l2 : Option Value) (h : sx_H), sx_Ev S 108 7 [l0, l1, l2] [] h = sx_Ev S 108 9 [l0, l1, l2] [.int (sz (-900001))] h) ∧
  (∀ (l0 l1 l2 : Option Value) (s0 : Int32) (h : sx_H), sx_Ev S 108 9 [l0, l1, l2] [.int s0] h = some (.inl (some (.int s0)), h)) ∧
  (∀ (l0 l1 l2 : Option Value) (h : sx_H), sx_Ev S 108 11 [l0, l1, l2] [] h = sx_Ev S 108 13 [l0, l1, l2] [.int (sz (-900002))] h) ∧
  (∀ (l0 l1 l2 : Option Value) (s0 : Int32) (h : sx_H), sx_Ev S 108 13 [l0, l1, l2] [.int s0] h = some (.inl (some (.int s0)), h)) := ⟨fun _ _ _ _ => sx_e_nx rfl rfl,
  fun _ _ _ _ _ => sx_e_nx rfl rfl,
  fun _ _ _ _ _ _ hv => sx_e_virt rfl rfl ⟨Nat.le_of_ble_eq_true rfl, Nat.le_of_ble_eq_true rfl, rfl⟩ rfl rfl rfl hv,
  fun _ _ _ _ => rfl,
  fun _ _ _ _ _ => rfl,
  fun _ _ _ _ _ => rfl,
  fun _ _ _ _ _ => rfl,
  fun _ _ _ _ _ => rfl,
  fun _ _ _ _ _ => rfl,
  fun _ _ _ _ _ => sx_e_ret rfl rfl rfl,
  fun _ _ _ _ => sx_e_ldc rfl rfl (by decide +kernel) rfl,
  fun _ _ _ _ _ => sx_e_ret rfl rfl rfl,
  fun _ _ _ _ => sx_e_ldc rfl rfl (by decide +kernel) rfl,
  fun _ _ _ _ _ => sx_e_ret rfl rfl rfl⟩
/-- 109: L_rowWidth (LBeadslant;II)I -/
theorem c109_q (S : List Int32) : ∀ (a0 : Nat) (a1 : Int32) (a2 : Int32) (h : sx_H), sx_Cl S 109 [.ref a0, .int a1, .int a2] h = sx_Ev S 109 0 [some (.ref a0), some (.int a1), some (.int a2), none] [] h := fun _ _ _ _ => rfl
theorem q109 (S : List Int32) : (∀ (l1 l2 l3 : Option Value) (x : Nat) (h : sx_H), sx_Ev S 109 0 [some (.ref x), l1, l2, l3] [] h = sx_Ev S 109 1 [some (.ref x), l1, l2, l3] [.ref x] h) ∧
  (∀ (l0 l2 l3 : Option Value) (s0 : Nat) (x : Int32) (h : sx_H), sx_Ev S 109 1 [l0, some (.int x), l2, l3] [.ref s0] h = sx_Ev S 109 2 [l0, some (.int x), l2, l3] [.int x, .ref s0] h) ∧
  (∀ (l0 l1 l3 : Option Value) (s0 : Int32) (s1 : Nat) (x : Int32) (h : sx_H), sx_Ev S 109 2 [l0, l1, some (.int x), l3] [.int s0, .ref s1] h = sx_Ev S 109 3 [l0, l1, some (.int x), l3] [.int x, .int s0, .ref s1] h) ∧
  (∀ (l0 l1 l2 l3 : Option Value) (s0 : Int32) (s1 : Int32) (s2 : Nat) (h : sx_H), sx_klass h s2 = some 6 → sx_Ev S 109 3 [l0, l1, l2, l3] [.int s0, .int s1, .ref s2] h = sx_back S 109 3 [l0, l1, l2, l3] [] (sx_Cl S 86 [.ref s2, .int s1, .int s0] h)) ∧
  (∀ (ls : sx_L) (st : List Value) (v : Value) (h : sx_H), sx_back S 109 3 ls st (some (.inl (some v), h)) = sx_Ev S 109 6 ls (v :: st) h) ∧
  (∀ (l0 l1 l2 l3 : Option Value) (st : List Value) (h : sx_H), sx_back S 109 3 [l0, l1, l2, l3] st (some (.inr 0, h)) = some (.inr 0, h)) ∧
  (∀ (l0 l1 l2 l3 : Option Value) (st : List Value) (h : sx_H), sx_back S 109 3 [l0, l1, l2, l3] st (some (.inr 1, h)) = some (.inr 1, h)) ∧
  (∀ (l0 l1 l2 l3 : Option Value) (st : List Value) (h : sx_H), sx_back S 109 3 [l0, l1, l2, l3] st (some (.inr 2, h)) = sx_Ev S 109 8 [l0, l1, l2, none] [] h) ∧
  (∀ (l0 l1 l2 l3 : Option Value) (st : List Value) (h : sx_H), sx_back S 109 3 [l0, l1, l2, l3] st (some (.inr 3, h)) = some (.inr 3, h)) ∧
  (∀ (l0 l1 l2 l3 : Option Value) (st : List Value) (h : sx_H), sx_back S 109 3 [l0, l1, l2, l3] st (some (.inr 4, h)) = some (.inr 4, h)) ∧
  (∀ (l0 l1 l2 l3 : Option Value) (s0 : Int32) (h : sx_H), sx_Ev S 109 6 [l0, l1, l2, l3] [.int s0] h = some (.inl (some (.int s0)), h)) ∧
  (∀ (l0 l1 l2 l3 : Option Value) (h : sx_H), sx_Ev S 109 8 [l0, l1, l2, l3] [] h = sx_Ev S 109 10 [l0, l1, l2, l3] [.int (sz (-900001))] h) ∧
  (∀ (l0 l1 l2 l3 : Option Value) (s0 : Int32) (h : sx_H), sx_Ev S 109 10 [l0, l1, l2, l3] [.int s0] h = some (.inl (some (.int s0)), h)) := ⟨fun _ _ _ _ _ => sx_e_nx rfl rfl,
  fun _ _ _ _ _ _ => sx_e_nx rfl rfl,
  fun _ _ _ _ _ _ _ => sx_e_nx rfl rfl,
  fun _ _ _ _ _ _ _ _ hv => sx_e_virt rfl rfl ⟨Nat.le_of_ble_eq_true rfl, Nat.le_of_ble_eq_true rfl, rfl⟩ rfl rfl rfl hv,
  fun _ _ _ _ => rfl,
  fun _ _ _ _ _ _ => rfl,
  fun _ _ _ _ _ _ => rfl,
  fun _ _ _ _ _ _ => rfl,
  fun _ _ _ _ _ _ => rfl,
  fun _ _ _ _ _ _ => rfl,
  fun _ _ _ _ _ _ => sx_e_ret rfl rfl rfl,
  fun _ _ _ _ _ => sx_e_ldc rfl rfl (by decide +kernel) rfl,
  fun _ _ _ _ _ _ => sx_e_ret rfl rfl rfl⟩
/-- 110: L_runs (LBeadslant;II)I -/
theorem c110_q (S : List Int32) : ∀ (a0 : Nat) (a1 : Int32) (a2 : Int32) (h : sx_H), sx_Cl S 110 [.ref a0, .int a1, .int a2] h = sx_Ev S 110 0 [some (.ref a0), some (.int a1), some (.int a2), none] [] h := fun _ _ _ _ => rfl
theorem q110 (S : List Int32) : (∀ (l1 l2 l3 : Option Value) (x : Nat) (h : sx_H), sx_Ev S 110 0 [some (.ref x), l1, l2, l3] [] h = sx_Ev S 110 1 [some (.ref x), l1, l2, l3] [.ref x] h) ∧
  (∀ (l0 l2 l3 : Option Value) (s0 : Nat) (x : Int32) (h : sx_H), sx_Ev S 110 1 [l0, some (.int x), l2, l3] [.ref s0] h = sx_Ev S 110 2 [l0, some (.int x), l2, l3] [.int x, .ref s0] h) ∧
  (∀ (l0 l1 l3 : Option Value) (s0 : Int32) (s1 : Nat) (x : Int32) (h : sx_H), sx_Ev S 110 2 [l0, l1, some (.int x), l3] [.int s0, .ref s1] h = sx_Ev S 110 3 [l0, l1, some (.int x), l3] [.int x, .int s0, .ref s1] h) ∧
  (∀ (l0 l1 l2 l3 : Option Value) (s0 : Int32) (s1 : Int32) (s2 : Nat) (h : sx_H), sx_klass h s2 = some 6 → sx_Ev S 110 3 [l0, l1, l2, l3] [.int s0, .int s1, .ref s2] h = sx_back S 110 3 [l0, l1, l2, l3] [] (sx_Cl S 87 [.ref s2, .int s1, .int s0] h)) ∧
  (∀ (ls : sx_L) (st : List Value) (v : Value) (h : sx_H), sx_back S 110 3 ls st (some (.inl (some v), h)) = sx_Ev S 110 6 ls (v :: st) h) ∧
  (∀ (l0 l1 l2 l3 : Option Value) (st : List Value) (h : sx_H), sx_back S 110 3 [l0, l1, l2, l3] st (some (.inr 0, h)) = some (.inr 0, h)) ∧
  (∀ (l0 l1 l2 l3 : Option Value) (st : List Value) (h : sx_H), sx_back S 110 3 [l0, l1, l2, l3] st (some (.inr 1, h)) = some (.inr 1, h)) ∧
  (∀ (l0 l1 l2 l3 : Option Value) (st : List Value) (h : sx_H), sx_back S 110 3 [l0, l1, l2, l3] st (some (.inr 2, h)) = sx_Ev S 110 8 [l0, l1, l2, none] [] h) ∧
  (∀ (l0 l1 l2 l3 : Option Value) (st : List Value) (h : sx_H), sx_back S 110 3 [l0, l1, l2, l3] st (some (.inr 3, h)) = some (.inr 3, h)) ∧
  (∀ (l0 l1 l2 l3 : Option Value) (st : List Value) (h : sx_H), sx_back S 110 3 [l0, l1, l2, l3] st (some (.inr 4, h)) = some (.inr 4, h)) ∧
  (∀ (l0 l1 l2 l3 : Option Value) (s0 : Int32) (h : sx_H), sx_Ev S 110 6 [l0, l1, l2, l3] [.int s0] h = some (.inl (some (.int s0)), h)) ∧
  (∀ (l0 l1 l2 l3 : Option Value) (h : sx_H), sx_Ev S 110 8 [l0, l1, l2, l3] [] h = sx_Ev S 110 10 [l0, l1, l2, l3] [.int (sz (-900001))] h) ∧
  (∀ (l0 l1 l2 l3 : Option Value) (s0 : Int32) (h : sx_H), sx_Ev S 110 10 [l0, l1, l2, l3] [.int s0] h = some (.inl (some (.int s0)), h)) := ⟨fun _ _ _ _ _ => sx_e_nx rfl rfl,
  fun _ _ _ _ _ _ => sx_e_nx rfl rfl,
  fun _ _ _ _ _ _ _ => sx_e_nx rfl rfl,
  fun _ _ _ _ _ _ _ _ hv => sx_e_virt rfl rfl ⟨Nat.le_of_ble_eq_true rfl, Nat.le_of_ble_eq_true rfl, rfl⟩ rfl rfl rfl hv,
  fun _ _ _ _ => rfl,
  fun _ _ _ _ _ _ => rfl,
  fun _ _ _ _ _ _ => rfl,
  fun _ _ _ _ _ _ => rfl,
  fun _ _ _ _ _ _ => rfl,
  fun _ _ _ _ _ _ => rfl,
  fun _ _ _ _ _ _ => sx_e_ret rfl rfl rfl,
  fun _ _ _ _ _ => sx_e_ldc rfl rfl (by decide +kernel) rfl,
  fun _ _ _ _ _ _ => sx_e_ret rfl rfl rfl⟩
/-- 111: L_runLength (LBeadslant;IIIZ)I -/
theorem c111_q (S : List Int32) : ∀ (a0 : Nat) (a1 : Int32) (a2 : Int32) (a3 : Int32) (a4 : Int32) (h : sx_H), sx_Cl S 111 [.ref a0, .int a1, .int a2, .int a3, .int a4] h = sx_Ev S 111 0 [some (.ref a0), some (.int a1), some (.int a2), some (.int a3), some (.int a4), none] [] h := fun _ _ _ _ _ _ => rfl
theorem q111 (S : List Int32) : (∀ (l1 l2 l3 l4 l5 : Option Value) (x : Nat) (h : sx_H), sx_Ev S 111 0 [some (.ref x), l1, l2, l3, l4, l5] [] h = sx_Ev S 111 1 [some (.ref x), l1, l2, l3, l4, l5] [.ref x] h) ∧
  (∀ (l0 l2 l3 l4 l5 : Option Value) (s0 : Nat) (x : Int32) (h : sx_H), sx_Ev S 111 1 [l0, some (.int x), l2, l3, l4, l5] [.ref s0] h = sx_Ev S 111 2 [l0, some (.int x), l2, l3, l4, l5] [.int x, .ref s0] h) ∧
  (∀ (l0 l1 l3 l4 l5 : Option Value) (s0 : Int32) (s1 : Nat) (x : Int32) (h : sx_H), sx_Ev S 111 2 [l0, l1, some (.int x), l3, l4, l5] [.int s0, .ref s1] h = sx_Ev S 111 3 [l0, l1, some (.int x), l3, l4, l5] [.int x, .int s0, .ref s1] h) ∧
  (∀ (l0 l1 l2 l4 l5 : Option Value) (s0 : Int32) (s1 : Int32) (s2 : Nat) (x : Int32) (h : sx_H), sx_Ev S 111 3 [l0, l1, l2, some (.int x), l4, l5] [.int s0, .int s1, .ref s2] h = sx_Ev S 111 4 [l0, l1, l2, some (.int x), l4, l5] [.int x, .int s0, .int s1, .ref s2] h) ∧
  (∀ (l0 l1 l2 l3 l5 : Option Value) (s0 : Int32) (s1 : Int32) (s2 : Int32) (s3 : Nat) (x : Int32) (h : sx_H), sx_Ev S 111 4 [l0, l1, l2, l3, some (.int x), l5] [.int s0, .int s1, .int s2, .ref s3] h = sx_Ev S 111 6 [l0, l1, l2, l3, some (.int x), l5] [.int x, .int s0, .int s1, .int s2, .ref s3] h) ∧
  (∀ (l0 l1 l2 l3 l4 l5 : Option Value) (s0 : Int32) (s1 : Int32) (s2 : Int32) (s3 : Int32) (s4 : Nat) (h : sx_H), sx_klass h s4 = some 6 → sx_Ev S 111 6 [l0, l1, l2, l3, l4, l5] [.int s0, .int s1, .int s2, .int s3, .ref s4] h = sx_back S 111 6 [l0, l1, l2, l3, l4, l5] [] (sx_Cl S 89 [.ref s4, .int s3, .int s2, .int s1, .int s0] h)) ∧
  (∀ (ls : sx_L) (st : List Value) (v : Value) (h : sx_H), sx_back S 111 6 ls st (some (.inl (some v), h)) = sx_Ev S 111 9 ls (v :: st) h) ∧
  (∀ (l0 l1 l2 l3 l4 l5 : Option Value) (st : List Value) (h : sx_H), sx_back S 111 6 [l0, l1, l2, l3, l4, l5] st (some (.inr 0, h)) = some (.inr 0, h)) ∧
  (∀ (l0 l1 l2 l3 l4 l5 : Option Value) (st : List Value) (h : sx_H), sx_back S 111 6 [l0, l1, l2, l3, l4, l5] st (some (.inr 1, h)) = some (.inr 1, h)) ∧
  (∀ (l0 l1 l2 l3 l4 l5 : Option Value) (st : List Value) (h : sx_H), sx_back S 111 6 [l0, l1, l2, l3, l4, l5] st (some (.inr 2, h)) = sx_Ev S 111 12 [l0, l1, l2, l3, l4, none] [] h) ∧
  (∀ (l0 l1 l2 l3 l4 l5 : Option Value) (st : List Value) (h : sx_H), sx_back S 111 6 [l0, l1, l2, l3, l4, l5] st (some (.inr 3, h)) = some (.inr 3, h)) ∧
  (∀ (l0 l1 l2 l3 l4 l5 : Option Value) (st : List Value) (h : sx_H), sx_back S 111 6 [l0, l1, l2, l3, l4, l5] st (some (.inr 4, h)) = sx_Ev S 111 17 [l0, l1, l2, l3, l4, none] [] h) ∧
  (∀ (l0 l1 l2 l3 l4 l5 : Option Value) (s0 : Int32) (h : sx_H), sx_Ev S 111 9 [l0, l1, l2, l3, l4, l5] [.int s0] h = some (.inl (some (.int s0)), h)) ∧
  (∀ (l0 l1 l2 l3 l4 l5 : Option Value) (h : sx_H), sx_Ev S 111 12 [l0, l1, l2, l3, l4, l5] [] h = sx_Ev S 111 14 [l0, l1, l2, l3, l4, l5] [.int (sz (-900001))] h) ∧
  (∀ (l0 l1 l2 l3 l4 l5 : Option Value) (s0 : Int32) (h : sx_H), sx_Ev S 111 14 [l0, l1, l2, l3, l4, l5] [.int s0] h = some (.inl (some (.int s0)), h)) ∧
  (∀ (l0 l1 l2 l3 l4 l5 : Option Value) (h : sx_H), sx_Ev S 111 17 [l0, l1, l2, l3, l4, l5] [] h = sx_Ev S 111 19 [l0, l1, l2, l3, l4, l5] [.int (sz (-900002))] h) ∧
  (∀ (l0 l1 l2 l3 l4 l5 : Option Value) (s0 : Int32) (h : sx_H), sx_Ev S 111 19 [l0, l1, l2, l3, l4, l5] [.int s0] h = some (.inl (some (.int s0)), h)) := ⟨fun _ _ _ _ _ _ _ => sx_e_nx rfl rfl,
  fun _ _ _ _ _ _ _ _ => sx_e_nx rfl rfl,
  fun _ _ _ _ _ _ _ _ _ => sx_e_nx rfl rfl,
  fun _ _ _ _ _ _ _ _ _ _ => sx_e_nx rfl rfl,
  fun _ _ _ _ _ _ _ _ _ _ _ => sx_e_nx rfl rfl,
  fun _ _ _ _ _ _ _ _ _ _ _ _ hv => sx_e_virt rfl rfl ⟨Nat.le_of_ble_eq_true rfl, Nat.le_of_ble_eq_true rfl, rfl⟩ rfl rfl rfl hv,
  fun _ _ _ _ => rfl,
  fun _ _ _ _ _ _ _ _ => rfl,
  fun _ _ _ _ _ _ _ _ => rfl,
  fun _ _ _ _ _ _ _ _ => rfl,
  fun _ _ _ _ _ _ _ _ => rfl,
  fun _ _ _ _ _ _ _ _ => rfl,
  fun _ _ _ _ _ _ _ _ => sx_e_ret rfl rfl rfl,
  fun _ _ _ _ _ _ _ => sx_e_ldc rfl rfl (by decide +kernel) rfl,
  fun _ _ _ _ _ _ _ _ => sx_e_ret rfl rfl rfl,
  fun _ _ _ _ _ _ _ => sx_e_ldc rfl rfl (by decide +kernel) rfl,
  fun _ _ _ _ _ _ _ _ => sx_e_ret rfl rfl rfl⟩
/-- 112: L_runColour (LBeadslant;IIIZ)I -/
theorem c112_q (S : List Int32) : ∀ (a0 : Nat) (a1 : Int32) (a2 : Int32) (a3 : Int32) (a4 : Int32) (h : sx_H), sx_Cl S 112 [.ref a0, .int a1, .int a2, .int a3, .int a4] h = sx_Ev S 112 0 [some (.ref a0), some (.int a1), some (.int a2), some (.int a3), some (.int a4), none] [] h := fun _ _ _ _ _ _ => rfl
theorem q112 (S : List Int32) : (∀ (l1 l2 l3 l4 l5 : Option Value) (x : Nat) (h : sx_H), sx_Ev S 112 0 [some (.ref x), l1, l2, l3, l4, l5] [] h = sx_Ev S 112 1 [some (.ref x), l1, l2, l3, l4, l5] [.ref x] h) ∧
  (∀ (l0 l2 l3 l4 l5 : Option Value) (s0 : Nat) (x : Int32) (h : sx_H), sx_Ev S 112 1 [l0, some (.int x), l2, l3, l4, l5] [.ref s0] h = sx_Ev S 112 2 [l0, some (.int x), l2, l3, l4, l5] [.int x, .ref s0] h) ∧
  (∀ (l0 l1 l3 l4 l5 : Option Value) (s0 : Int32) (s1 : Nat) (x : Int32) (h : sx_H), sx_Ev S 112 2 [l0, l1, some (.int x), l3, l4, l5] [.int s0, .ref s1] h = sx_Ev S 112 3 [l0, l1, some (.int x), l3, l4, l5] [.int x, .int s0, .ref s1] h) ∧
  (∀ (l0 l1 l2 l4 l5 : Option Value) (s0 : Int32) (s1 : Int32) (s2 : Nat) (x : Int32) (h : sx_H), sx_Ev S 112 3 [l0, l1, l2, some (.int x), l4, l5] [.int s0, .int s1, .ref s2] h = sx_Ev S 112 4 [l0, l1, l2, some (.int x), l4, l5] [.int x, .int s0, .int s1, .ref s2] h) ∧
  (∀ (l0 l1 l2 l3 l5 : Option Value) (s0 : Int32) (s1 : Int32) (s2 : Int32) (s3 : Nat) (x : Int32) (h : sx_H), sx_Ev S 112 4 [l0, l1, l2, l3, some (.int x), l5] [.int s0, .int s1, .int s2, .ref s3] h = sx_Ev S 112 6 [l0, l1, l2, l3, some (.int x), l5] [.int x, .int s0, .int s1, .int s2, .ref s3] h) ∧
  (∀ (l0 l1 l2 l3 l4 l5 : Option Value) (s0 : Int32) (s1 : Int32) (s2 : Int32) (s3 : Int32) (s4 : Nat) (h : sx_H), sx_klass h s4 = some 6 → sx_Ev S 112 6 [l0, l1, l2, l3, l4, l5] [.int s0, .int s1, .int s2, .int s3, .ref s4] h = sx_back S 112 6 [l0, l1, l2, l3, l4, l5] [] (sx_Cl S 90 [.ref s4, .int s3, .int s2, .int s1, .int s0] h)) ∧
  (∀ (ls : sx_L) (st : List Value) (v : Value) (h : sx_H), sx_back S 112 6 ls st (some (.inl (some v), h)) = sx_Ev S 112 9 ls (v :: st) h) ∧
  (∀ (l0 l1 l2 l3 l4 l5 : Option Value) (st : List Value) (h : sx_H), sx_back S 112 6 [l0, l1, l2, l3, l4, l5] st (some (.inr 0, h)) = some (.inr 0, h)) ∧
  (∀ (l0 l1 l2 l3 l4 l5 : Option Value) (st : List Value) (h : sx_H), sx_back S 112 6 [l0, l1, l2, l3, l4, l5] st (some (.inr 1, h)) = some (.inr 1, h)) ∧
  (∀ (l0 l1 l2 l3 l4 l5 : Option Value) (st : List Value) (h : sx_H), sx_back S 112 6 [l0, l1, l2, l3, l4, l5] st (some (.inr 2, h)) = sx_Ev S 112 12 [l0, l1, l2, l3, l4, none] [] h) ∧
  (∀ (l0 l1 l2 l3 l4 l5 : Option Value) (st : List Value) (h : sx_H), sx_back S 112 6 [l0, l1, l2, l3, l4, l5] st (some (.inr 3, h)) = some (.inr 3, h)) ∧
  (∀ (l0 l1 l2 l3 l4 l5 : Option Value) (st : List Value) (h : sx_H), sx_back S 112 6 [l0, l1, l2, l3, l4, l5] st (some (.inr 4, h)) = sx_Ev S 112 17 [l0, l1, l2, l3, l4, none] [] h) ∧
  (∀ (l0 l1 l2 l3 l4 l5 : Option Value) (s0 : Int32) (h : sx_H), sx_Ev S 112 9 [l0, l1, l2, l3, l4, l5] [.int s0] h = some (.inl (some (.int s0)), h)) ∧
  (∀ (l0 l1 l2 l3 l4 l5 : Option Value) (h : sx_H), sx_Ev S 112 12 [l0, l1, l2, l3, l4, l5] [] h = sx_Ev S 112 14 [l0, l1, l2, l3, l4, l5] [.int (sz (-900001))] h) ∧
  (∀ (l0 l1 l2 l3 l4 l5 : Option Value) (s0 : Int32) (h : sx_H), sx_Ev S 112 14 [l0, l1, l2, l3, l4, l5] [.int s0] h = some (.inl (some (.int s0)), h)) ∧
  (∀ (l0 l1 l2 l3 l4 l5 : Option Value) (h : sx_H), sx_Ev S 112 17 [l0, l1, l2, l3, l4, l5] [] h = sx_Ev S 112 19 [l0, l1, l2, l3, l4, l5] [.int (sz (-900002))] h) ∧
  (∀ (l0 l1 l2 l3 l4 l5 : Option Value) (s0 : Int32) (h : sx_H), sx_Ev S 112 19 [l0, l1, l2, l3, l4, l5] [.int s0] h = some (.inl (some (.int s0)), h)) := ⟨fun _ _ _ _ _ _ _ => sx_e_nx rfl rfl,
  fun _ _ _ _ _ _ _ _ => sx_e_nx rfl rfl,
  fun _ _ _ _ _ _ _ _ _ => sx_e_nx rfl rfl,
  fun _ _ _ _ _ _ _ _ _ _ => sx_e_nx rfl rfl,
  fun _ _ _ _ _ _ _ _ _ _ _ => sx_e_nx rfl rfl,
  fun _ _ _ _ _ _ _ _ _ _ _ _ hv => sx_e_virt rfl rfl ⟨Nat.le_of_ble_eq_true rfl, Nat.le_of_ble_eq_true rfl, rfl⟩ rfl rfl rfl hv,
  fun _ _ _ _ => rfl,
  fun _ _ _ _ _ _ _ _ => rfl,
  fun _ _ _ _ _ _ _ _ => rfl,
  fun _ _ _ _ _ _ _ _ => rfl,
  fun _ _ _ _ _ _ _ _ => rfl,
  fun _ _ _ _ _ _ _ _ => rfl,
  fun _ _ _ _ _ _ _ _ => sx_e_ret rfl rfl rfl,
  fun _ _ _ _ _ _ _ => sx_e_ldc rfl rfl (by decide +kernel) rfl,
  fun _ _ _ _ _ _ _ _ => sx_e_ret rfl rfl rfl,
  fun _ _ _ _ _ _ _ => sx_e_ldc rfl rfl (by decide +kernel) rfl,
  fun _ _ _ _ _ _ _ _ => sx_e_ret rfl rfl rfl⟩
/-- 113: L_runWord (LBeadslant;IIII)I -/
theorem c113_q (S : List Int32) : ∀ (a0 : Nat) (a1 : Int32) (a2 : Int32) (a3 : Int32) (a4 : Int32) (h : sx_H), sx_Cl S 113 [.ref a0, .int a1, .int a2, .int a3, .int a4] h = sx_Ev S 113 0 [some (.ref a0), some (.int a1), some (.int a2), some (.int a3), some (.int a4), none] [] h := fun _ _ _ _ _ _ => rfl
theorem q113 (S : List Int32) : (∀ (l1 l2 l3 l4 l5 : Option Value) (x : Nat) (h : sx_H), sx_Ev S 113 0 [some (.ref x), l1, l2, l3, l4, l5] [] h = sx_Ev S 113 1 [some (.ref x), l1, l2, l3, l4, l5] [.ref x] h) ∧
  (∀ (l0 l2 l3 l4 l5 : Option Value) (s0 : Nat) (x : Int32) (h : sx_H), sx_Ev S 113 1 [l0, some (.int x), l2, l3, l4, l5] [.ref s0] h = sx_Ev S 113 2 [l0, some (.int x), l2, l3, l4, l5] [.int x, .ref s0] h) ∧
  (∀ (l0 l1 l3 l4 l5 : Option Value) (s0 : Int32) (s1 : Nat) (x : Int32) (h : sx_H), sx_Ev S 113 2 [l0, l1, some (.int x), l3, l4, l5] [.int s0, .ref s1] h = sx_Ev S 113 3 [l0, l1, some (.int x), l3, l4, l5] [.int x, .int s0, .ref s1] h) ∧
  (∀ (l0 l1 l2 l4 l5 : Option Value) (s0 : Int32) (s1 : Int32) (s2 : Nat) (x : Int32) (h : sx_H), sx_Ev S 113 3 [l0, l1, l2, some (.int x), l4, l5] [.int s0, .int s1, .ref s2] h = sx_Ev S 113 4 [l0, l1, l2, some (.int x), l4, l5] [.int x, .int s0, .int s1, .ref s2] h) ∧
  (∀ (l0 l1 l2 l3 l5 : Option Value) (s0 : Int32) (s1 : Int32) (s2 : Int32) (s3 : Nat) (x : Int32) (h : sx_H), sx_Ev S 113 4 [l0, l1, l2, l3, some (.int x), l5] [.int s0, .int s1, .int s2, .ref s3] h = sx_Ev S 113 6 [l0, l1, l2, l3, some (.int x), l5] [.int x, .int s0, .int s1, .int s2, .ref s3] h) ∧
  (∀ (l0 l1 l2 l3 l4 l5 : Option Value) (s0 : Int32) (s1 : Int32) (s2 : Int32) (s3 : Int32) (s4 : Nat) (h : sx_H), sx_klass h s4 = some 6 → sx_Ev S 113 6 [l0, l1, l2, l3, l4, l5] [.int s0, .int s1, .int s2, .int s3, .ref s4] h = sx_back S 113 6 [l0, l1, l2, l3, l4, l5] [] (sx_Cl S 91 [.ref s4, .int s3, .int s2, .int s1, .int s0] h)) ∧
  (∀ (ls : sx_L) (st : List Value) (v : Value) (h : sx_H), sx_back S 113 6 ls st (some (.inl (some v), h)) = sx_Ev S 113 9 ls (v :: st) h) ∧
  (∀ (l0 l1 l2 l3 l4 l5 : Option Value) (st : List Value) (h : sx_H), sx_back S 113 6 [l0, l1, l2, l3, l4, l5] st (some (.inr 0, h)) = sx_Ev S 113 17 [l0, l1, l2, l3, l4, none] [] h) ∧
  (∀ (l0 l1 l2 l3 l4 l5 : Option Value) (st : List Value) (h : sx_H), sx_back S 113 6 [l0, l1, l2, l3, l4, l5] st (some (.inr 1, h)) = some (.inr 1, h)) ∧
  (∀ (l0 l1 l2 l3 l4 l5 : Option Value) (st : List Value) (h : sx_H), sx_back S 113 6 [l0, l1, l2, l3, l4, l5] st (some (.inr 2, h)) = sx_Ev S 113 12 [l0, l1, l2, l3, l4, none] [] h) ∧
  (∀ (l0 l1 l2 l3 l4 l5 : Option Value) (st : List Value) (h : sx_H), sx_back S 113 6 [l0, l1, l2, l3, l4, l5] st (some (.inr 3, h)) = some (.inr 3, h)) ∧
  (∀ (l0 l1 l2 l3 l4 l5 : Option Value) (st : List Value) (h : sx_H), sx_back S 113 6 [l0, l1, l2, l3, l4, l5] st (some (.inr 4, h)) = sx_Ev S 113 22 [l0, l1, l2, l3, l4, none] [] h) ∧
  (∀ (l0 l1 l2 l3 l4 l5 : Option Value) (s0 : Int32) (h : sx_H), sx_Ev S 113 9 [l0, l1, l2, l3, l4, l5] [.int s0] h = some (.inl (some (.int s0)), h)) ∧
  (∀ (l0 l1 l2 l3 l4 l5 : Option Value) (h : sx_H), sx_Ev S 113 12 [l0, l1, l2, l3, l4, l5] [] h = sx_Ev S 113 14 [l0, l1, l2, l3, l4, l5] [.int (sz (-900001))] h) ∧
  (∀ (l0 l1 l2 l3 l4 l5 : Option Value) (s0 : Int32) (h : sx_H), sx_Ev S 113 14 [l0, l1, l2, l3, l4, l5] [.int s0] h = some (.inl (some (.int s0)), h)) ∧
  (∀ (l0 l1 l2 l3 l4 l5 : Option Value) (h : sx_H), sx_Ev S 113 17 [l0, l1, l2, l3, l4, l5] [] h = sx_Ev S 113 19 [l0, l1, l2, l3, l4, l5] [.int (sz (-900002))] h) ∧
  (∀ (l0 l1 l2 l3 l4 l5 : Option Value) (s0 : Int32) (h : sx_H), sx_Ev S 113 19 [l0, l1, l2, l3, l4, l5] [.int s0] h = some (.inl (some (.int s0)), h)) ∧
  (∀ (l0 l1 l2 l3 l4 l5 : Option Value) (h : sx_H), sx_Ev S 113 22 [l0, l1, l2, l3, l4, l5] [] h = sx_Ev S 113 24 [l0, l1, l2, l3, l4, l5] [.int (sz (-900003))] h) ∧
  (∀ (l0 l1 l2 l3 l4 l5 : Option Value) (s0 : Int32) (h : sx_H), sx_Ev S 113 24 [l0, l1, l2, l3, l4, l5] [.int s0] h = some (.inl (some (.int s0)), h)) := ⟨fun _ _ _ _ _ _ _ => sx_e_nx rfl rfl,
  fun _ _ _ _ _ _ _ _ => sx_e_nx rfl rfl,
  fun _ _ _ _ _ _ _ _ _ => sx_e_nx rfl rfl,
  fun _ _ _ _ _ _ _ _ _ _ => sx_e_nx rfl rfl,
  fun _ _ _ _ _ _ _ _ _ _ _ => sx_e_nx rfl rfl,
  fun _ _ _ _ _ _ _ _ _ _ _ _ hv => sx_e_virt rfl rfl ⟨Nat.le_of_ble_eq_true rfl, Nat.le_of_ble_eq_true rfl, rfl⟩ rfl rfl rfl hv,
  fun _ _ _ _ => rfl,
  fun _ _ _ _ _ _ _ _ => rfl,
  fun _ _ _ _ _ _ _ _ => rfl,
  fun _ _ _ _ _ _ _ _ => rfl,
  fun _ _ _ _ _ _ _ _ => rfl,
  fun _ _ _ _ _ _ _ _ => rfl,
  fun _ _ _ _ _ _ _ _ => sx_e_ret rfl rfl rfl,
  fun _ _ _ _ _ _ _ => sx_e_ldc rfl rfl (by decide +kernel) rfl,
  fun _ _ _ _ _ _ _ _ => sx_e_ret rfl rfl rfl,
  fun _ _ _ _ _ _ _ => sx_e_ldc rfl rfl (by decide +kernel) rfl,
  fun _ _ _ _ _ _ _ _ => sx_e_ret rfl rfl rfl,
  fun _ _ _ _ _ _ _ => sx_e_ldc rfl rfl (by decide +kernel) rfl,
  fun _ _ _ _ _ _ _ _ => sx_e_ret rfl rfl rfl⟩
/-- 114: L_shared (LBeadslant;III)I -/
theorem c114_q (S : List Int32) : ∀ (a0 : Nat) (a1 : Int32) (a2 : Int32) (a3 : Int32) (h : sx_H), sx_Cl S 114 [.ref a0, .int a1, .int a2, .int a3] h = sx_Ev S 114 0 [some (.ref a0), some (.int a1), some (.int a2), some (.int a3), none] [] h := fun _ _ _ _ _ => rfl
theorem q114 (S : List Int32) : (∀ (l1 l2 l3 l4 : Option Value) (x : Nat) (h : sx_H), sx_Ev S 114 0 [some (.ref x), l1, l2, l3, l4] [] h = sx_Ev S 114 1 [some (.ref x), l1, l2, l3, l4] [.ref x] h) ∧
  (∀ (l0 l2 l3 l4 : Option Value) (s0 : Nat) (x : Int32) (h : sx_H), sx_Ev S 114 1 [l0, some (.int x), l2, l3, l4] [.ref s0] h = sx_Ev S 114 2 [l0, some (.int x), l2, l3, l4] [.int x, .ref s0] h) ∧
  (∀ (l0 l1 l3 l4 : Option Value) (s0 : Int32) (s1 : Nat) (x : Int32) (h : sx_H), sx_Ev S 114 2 [l0, l1, some (.int x), l3, l4] [.int s0, .ref s1] h = sx_Ev S 114 3 [l0, l1, some (.int x), l3, l4] [.int x, .int s0, .ref s1] h) ∧
  (∀ (l0 l1 l2 l4 : Option Value) (s0 : Int32) (s1 : Int32) (s2 : Nat) (x : Int32) (h : sx_H), sx_Ev S 114 3 [l0, l1, l2, some (.int x), l4] [.int s0, .int s1, .ref s2] h = sx_Ev S 114 4 [l0, l1, l2, some (.int x), l4] [.int x, .int s0, .int s1, .ref s2] h) ∧
  (∀ (l0 l1 l2 l3 l4 : Option Value) (s0 : Int32) (s1 : Int32) (s2 : Int32) (s3 : Nat) (h : sx_H), sx_klass h s3 = some 6 → sx_Ev S 114 4 [l0, l1, l2, l3, l4] [.int s0, .int s1, .int s2, .ref s3] h = sx_back S 114 4 [l0, l1, l2, l3, l4] [] (sx_Cl S 92 [.ref s3, .int s2, .int s1, .int s0] h)) ∧
  (∀ (ls : sx_L) (st : List Value) (v : Value) (h : sx_H), sx_back S 114 4 ls st (some (.inl (some v), h)) = sx_Ev S 114 7 ls (v :: st) h) ∧
  (∀ (l0 l1 l2 l3 l4 : Option Value) (st : List Value) (h : sx_H), sx_back S 114 4 [l0, l1, l2, l3, l4] st (some (.inr 0, h)) = some (.inr 0, h)) ∧
  (∀ (l0 l1 l2 l3 l4 : Option Value) (st : List Value) (h : sx_H), sx_back S 114 4 [l0, l1, l2, l3, l4] st (some (.inr 1, h)) = some (.inr 1, h)) ∧
  (∀ (l0 l1 l2 l3 l4 : Option Value) (st : List Value) (h : sx_H), sx_back S 114 4 [l0, l1, l2, l3, l4] st (some (.inr 2, h)) = sx_Ev S 114 10 [l0, l1, l2, l3, none] [] h) ∧
  (∀ (l0 l1 l2 l3 l4 : Option Value) (st : List Value) (h : sx_H), sx_back S 114 4 [l0, l1, l2, l3, l4] st (some (.inr 3, h)) = sx_Ev S 114 15 [l0, l1, l2, l3, none] [] h) ∧
  (∀ (l0 l1 l2 l3 l4 : Option Value) (st : List Value) (h : sx_H), sx_back S 114 4 [l0, l1, l2, l3, l4] st (some (.inr 4, h)) = some (.inr 4, h)) ∧
  (∀ (l0 l1 l2 l3 l4 : Option Value) (s0 : Int32) (h : sx_H), sx_Ev S 114 7 [l0, l1, l2, l3, l4] [.int s0] h = some (.inl (some (.int s0)), h)) ∧
  (∀ (l0 l1 l2 l3 l4 : Option Value) (h : sx_H), sx_Ev S 114 10 [l0, l1, l2, l3, l4] [] h = sx_Ev S 114 12 [l0, l1, l2, l3, l4] [.int (sz (-900001))] h) ∧
  (∀ (l0 l1 l2 l3 l4 : Option Value) (s0 : Int32) (h : sx_H), sx_Ev S 114 12 [l0, l1, l2, l3, l4] [.int s0] h = some (.inl (some (.int s0)), h)) ∧
  (∀ (l0 l1 l2 l3 l4 : Option Value) (h : sx_H), sx_Ev S 114 15 [l0, l1, l2, l3, l4] [] h = sx_Ev S 114 17 [l0, l1, l2, l3, l4] [.int (sz (-900002))] h) ∧
  (∀ (l0 l1 l2 l3 l4 : Option Value) (s0 : Int32) (h : sx_H), sx_Ev S 114 17 [l0, l1, l2, l3, l4] [.int s0] h = some (.inl (some (.int s0)), h)) := ⟨fun _ _ _ _ _ _ => sx_e_nx rfl rfl,
  fun _ _ _ _ _ _ _ => sx_e_nx rfl rfl,
  fun _ _ _ _ _ _ _ _ => sx_e_nx rfl rfl,
  fun _ _ _ _ _ _ _ _ _ => sx_e_nx rfl rfl,
  fun _ _ _ _ _ _ _ _ _ _ hv => sx_e_virt rfl rfl ⟨Nat.le_of_ble_eq_true rfl, Nat.le_of_ble_eq_true rfl, rfl⟩ rfl rfl rfl hv,
  fun _ _ _ _ => rfl,
  fun _ _ _ _ _ _ _ => rfl,
  fun _ _ _ _ _ _ _ => rfl,
  fun _ _ _ _ _ _ _ => rfl,
  fun _ _ _ _ _ _ _ => rfl,
  fun _ _ _ _ _ _ _ => rfl,
  fun _ _ _ _ _ _ _ => sx_e_ret rfl rfl rfl,
  fun _ _ _ _ _ _ => sx_e_ldc rfl rfl (by decide +kernel) rfl,
  fun _ _ _ _ _ _ _ => sx_e_ret rfl rfl rfl,
  fun _ _ _ _ _ _ => sx_e_ldc rfl rfl (by decide +kernel) rfl,
  fun _ _ _ _ _ _ _ => sx_e_ret rfl rfl rfl⟩
/-- 115: L_guess (LBeadslant;IIII)I -/
theorem c115_q (S : List Int32) : ∀ (a0 : Nat) (a1 : Int32) (a2 : Int32) (a3 : Int32) (a4 : Int32) (h : sx_H), sx_Cl S 115 [.ref a0, .int a1, .int a2, .int a3, .int a4] h = sx_Ev S 115 0 [some (.ref a0), some (.int a1), some (.int a2), some (.int a3), some (.int a4), none] [] h := fun _ _ _ _ _ _ => rfl
theorem q115 (S : List Int32) : (∀ (l1 l2 l3 l4 l5 : Option Value) (x : Nat) (h : sx_H), sx_Ev S 115 0 [some (.ref x), l1, l2, l3, l4, l5] [] h = sx_Ev S 115 1 [some (.ref x), l1, l2, l3, l4, l5] [.ref x] h) ∧
  (∀ (l0 l2 l3 l4 l5 : Option Value) (s0 : Nat) (x : Int32) (h : sx_H), sx_Ev S 115 1 [l0, some (.int x), l2, l3, l4, l5] [.ref s0] h = sx_Ev S 115 2 [l0, some (.int x), l2, l3, l4, l5] [.int x, .ref s0] h) ∧
  (∀ (l0 l1 l3 l4 l5 : Option Value) (s0 : Int32) (s1 : Nat) (x : Int32) (h : sx_H), sx_Ev S 115 2 [l0, l1, some (.int x), l3, l4, l5] [.int s0, .ref s1] h = sx_Ev S 115 3 [l0, l1, some (.int x), l3, l4, l5] [.int x, .int s0, .ref s1] h) ∧
  (∀ (l0 l1 l2 l4 l5 : Option Value) (s0 : Int32) (s1 : Int32) (s2 : Nat) (x : Int32) (h : sx_H), sx_Ev S 115 3 [l0, l1, l2, some (.int x), l4, l5] [.int s0, .int s1, .ref s2] h = sx_Ev S 115 4 [l0, l1, l2, some (.int x), l4, l5] [.int x, .int s0, .int s1, .ref s2] h) ∧
  (∀ (l0 l1 l2 l3 l5 : Option Value) (s0 : Int32) (s1 : Int32) (s2 : Int32) (s3 : Nat) (x : Int32) (h : sx_H), sx_Ev S 115 4 [l0, l1, l2, l3, some (.int x), l5] [.int s0, .int s1, .int s2, .ref s3] h = sx_Ev S 115 6 [l0, l1, l2, l3, some (.int x), l5] [.int x, .int s0, .int s1, .int s2, .ref s3] h) ∧
  (∀ (l0 l1 l2 l3 l4 l5 : Option Value) (s0 : Int32) (s1 : Int32) (s2 : Int32) (s3 : Int32) (s4 : Nat) (h : sx_H), sx_klass h s4 = some 6 → sx_Ev S 115 6 [l0, l1, l2, l3, l4, l5] [.int s0, .int s1, .int s2, .int s3, .ref s4] h = sx_back S 115 6 [l0, l1, l2, l3, l4, l5] [] (sx_Cl S 93 [.ref s4, .int s3, .int s2, .int s1, .int s0] h)) ∧
  (∀ (ls : sx_L) (st : List Value) (v : Value) (h : sx_H), sx_back S 115 6 ls st (some (.inl (some v), h)) = sx_Ev S 115 9 ls (v :: st) h) ∧
  (∀ (l0 l1 l2 l3 l4 l5 : Option Value) (st : List Value) (h : sx_H), sx_back S 115 6 [l0, l1, l2, l3, l4, l5] st (some (.inr 0, h)) = sx_Ev S 115 17 [l0, l1, l2, l3, l4, none] [] h) ∧
  (∀ (l0 l1 l2 l3 l4 l5 : Option Value) (st : List Value) (h : sx_H), sx_back S 115 6 [l0, l1, l2, l3, l4, l5] st (some (.inr 1, h)) = some (.inr 1, h)) ∧
  (∀ (l0 l1 l2 l3 l4 l5 : Option Value) (st : List Value) (h : sx_H), sx_back S 115 6 [l0, l1, l2, l3, l4, l5] st (some (.inr 2, h)) = sx_Ev S 115 12 [l0, l1, l2, l3, l4, none] [] h) ∧
  (∀ (l0 l1 l2 l3 l4 l5 : Option Value) (st : List Value) (h : sx_H), sx_back S 115 6 [l0, l1, l2, l3, l4, l5] st (some (.inr 3, h)) = some (.inr 3, h)) ∧
  (∀ (l0 l1 l2 l3 l4 l5 : Option Value) (st : List Value) (h : sx_H), sx_back S 115 6 [l0, l1, l2, l3, l4, l5] st (some (.inr 4, h)) = sx_Ev S 115 22 [l0, l1, l2, l3, l4, none] [] h) ∧
  (∀ (l0 l1 l2 l3 l4 l5 : Option Value) (s0 : Int32) (h : sx_H), sx_Ev S 115 9 [l0, l1, l2, l3, l4, l5] [.int s0] h = some (.inl (some (.int s0)), h)) ∧
  (∀ (l0 l1 l2 l3 l4 l5 : Option Value) (h : sx_H), sx_Ev S 115 12 [l0, l1, l2, l3, l4, l5] [] h = sx_Ev S 115 14 [l0, l1, l2, l3, l4, l5] [.int (sz (-900001))] h) ∧
  (∀ (l0 l1 l2 l3 l4 l5 : Option Value) (s0 : Int32) (h : sx_H), sx_Ev S 115 14 [l0, l1, l2, l3, l4, l5] [.int s0] h = some (.inl (some (.int s0)), h)) ∧
  (∀ (l0 l1 l2 l3 l4 l5 : Option Value) (h : sx_H), sx_Ev S 115 17 [l0, l1, l2, l3, l4, l5] [] h = sx_Ev S 115 19 [l0, l1, l2, l3, l4, l5] [.int (sz (-900002))] h) ∧
  (∀ (l0 l1 l2 l3 l4 l5 : Option Value) (s0 : Int32) (h : sx_H), sx_Ev S 115 19 [l0, l1, l2, l3, l4, l5] [.int s0] h = some (.inl (some (.int s0)), h)) ∧
  (∀ (l0 l1 l2 l3 l4 l5 : Option Value) (h : sx_H), sx_Ev S 115 22 [l0, l1, l2, l3, l4, l5] [] h = sx_Ev S 115 24 [l0, l1, l2, l3, l4, l5] [.int (sz (-900003))] h) ∧
  (∀ (l0 l1 l2 l3 l4 l5 : Option Value) (s0 : Int32) (h : sx_H), sx_Ev S 115 24 [l0, l1, l2, l3, l4, l5] [.int s0] h = some (.inl (some (.int s0)), h)) := ⟨fun _ _ _ _ _ _ _ => sx_e_nx rfl rfl,
  fun _ _ _ _ _ _ _ _ => sx_e_nx rfl rfl,
  fun _ _ _ _ _ _ _ _ _ => sx_e_nx rfl rfl,
  fun _ _ _ _ _ _ _ _ _ _ => sx_e_nx rfl rfl,
  fun _ _ _ _ _ _ _ _ _ _ _ => sx_e_nx rfl rfl,
  fun _ _ _ _ _ _ _ _ _ _ _ _ hv => sx_e_virt rfl rfl ⟨Nat.le_of_ble_eq_true rfl, Nat.le_of_ble_eq_true rfl, rfl⟩ rfl rfl rfl hv,
  fun _ _ _ _ => rfl,
  fun _ _ _ _ _ _ _ _ => rfl,
  fun _ _ _ _ _ _ _ _ => rfl,
  fun _ _ _ _ _ _ _ _ => rfl,
  fun _ _ _ _ _ _ _ _ => rfl,
  fun _ _ _ _ _ _ _ _ => rfl,
  fun _ _ _ _ _ _ _ _ => sx_e_ret rfl rfl rfl,
  fun _ _ _ _ _ _ _ => sx_e_ldc rfl rfl (by decide +kernel) rfl,
  fun _ _ _ _ _ _ _ _ => sx_e_ret rfl rfl rfl,
  fun _ _ _ _ _ _ _ => sx_e_ldc rfl rfl (by decide +kernel) rfl,
  fun _ _ _ _ _ _ _ _ => sx_e_ret rfl rfl rfl,
  fun _ _ _ _ _ _ _ => sx_e_ldc rfl rfl (by decide +kernel) rfl,
  fun _ _ _ _ _ _ _ _ => sx_e_ret rfl rfl rfl⟩
/-- 116: L_isMirrored (LBeadslant;I)I -/
theorem c116_q (S : List Int32) : ∀ (a0 : Nat) (a1 : Int32) (h : sx_H), sx_Cl S 116 [.ref a0, .int a1] h = sx_Ev S 116 0 [some (.ref a0), some (.int a1), none] [] h := fun _ _ _ => rfl
theorem q116 (S : List Int32) : (∀ (l1 l2 : Option Value) (x : Nat) (h : sx_H), sx_Ev S 116 0 [some (.ref x), l1, l2] [] h = sx_Ev S 116 1 [some (.ref x), l1, l2] [.ref x] h) ∧
  (∀ (l0 l2 : Option Value) (s0 : Nat) (x : Int32) (h : sx_H), sx_Ev S 116 1 [l0, some (.int x), l2] [.ref s0] h = sx_Ev S 116 2 [l0, some (.int x), l2] [.int x, .ref s0] h) ∧
  (∀ (l0 l1 l2 : Option Value) (s0 : Int32) (s1 : Nat) (h : sx_H), sx_klass h s1 = some 6 → sx_Ev S 116 2 [l0, l1, l2] [.int s0, .ref s1] h = sx_back S 116 2 [l0, l1, l2] [] (sx_Cl S 84 [.ref s1, .int s0] h)) ∧
  (∀ (ls : sx_L) (st : List Value) (v : Value) (h : sx_H), sx_back S 116 2 ls st (some (.inl (some v), h)) = sx_Ev S 116 5 ls (v :: st) h) ∧
  (∀ (l0 l1 l2 : Option Value) (st : List Value) (h : sx_H), sx_back S 116 2 [l0, l1, l2] st (some (.inr 0, h)) = some (.inr 0, h)) ∧
  (∀ (l0 l1 l2 : Option Value) (st : List Value) (h : sx_H), sx_back S 116 2 [l0, l1, l2] st (some (.inr 1, h)) = some (.inr 1, h)) ∧
  (∀ (l0 l1 l2 : Option Value) (st : List Value) (h : sx_H), sx_back S 116 2 [l0, l1, l2] st (some (.inr 2, h)) = sx_Ev S 116 15 [l0, l1, none] [] h) ∧
  (∀ (l0 l1 l2 : Option Value) (st : List Value) (h : sx_H), sx_back S 116 2 [l0, l1, l2] st (some (.inr 3, h)) = sx_Ev S 116 19 [l0, l1, none] [] h) ∧
  (∀ (l0 l1 l2 : Option Value) (st : List Value) (h : sx_H), sx_back S 116 2 [l0, l1, l2] st (some (.inr 4, h)) = some (.inr 4, h)) ∧
  (∀ (l0 l1 l2 : Option Value) (s0 : Int32) (h : sx_H), sx_Ev S 116 5 [l0, l1, l2] [.int s0] h = if s0 = 0 then sx_Ev S 116 12 [l0, l1, l2] [] h else sx_Ev S 116 8 [l0, l1, l2] [] h) ∧
  (∀ (l0 l1 l2 : Option Value) (h : sx_H), sx_Ev S 116 8 [l0, l1, l2] [] h = sx_Ev S 116 9 [l0, l1, l2] [.int (sz (1))] h) ∧
  (∀ (l0 l1 l2 : Option Value) (s0 : Int32) (h : sx_H), sx_Ev S 116 9 [l0, l1, l2] [.int s0] h = sx_Ev S 116 13 [l0, l1, l2] [.int s0] h) ∧
  (∀ (l0 l1 l2 : Option Value) (h : sx_H), sx_Ev S 116 12 [l0, l1, l2] [] h = sx_Ev S 116 13 [l0, l1, l2] [.int (sz (0))] h) ∧
  (∀ (l0 l1 l2 : Option Value) (s0 : Int32) (h : sx_H), sx_Ev S 116 13 [l0, l1, l2] [.int s0] h = some (.inl (some (.int s0)), h)) ∧
  (∀ (l0 l1 l2 : Option Value) (h : sx_H), sx_Ev S 116 15 [l0, l1, l2] [] h = sx_Ev S 116 17 [l0, l1, l2] [.int (sz (-900001))] h) ∧
  (∀ (l0 l1 l2 : Option Value) (s0 : Int32) (h : sx_H), sx_Ev S 116 17 [l0, l1, l2] [.int s0] h = some (.inl (some (.int s0)), h)) ∧
  (∀ (l0 l1 l2 : Option Value) (h : sx_H), sx_Ev S 116 19 [l0, l1, l2] [] h = sx_Ev S 116 21 [l0, l1, l2] [.int (sz (-900002))] h) ∧
  (∀ (l0 l1 l2 : Option Value) (s0 : Int32) (h : sx_H), sx_Ev S 116 21 [l0, l1, l2] [.int s0] h = some (.inl (some (.int s0)), h)) := ⟨fun _ _ _ _ => sx_e_nx rfl rfl,
  fun _ _ _ _ _ => sx_e_nx rfl rfl,
  fun _ _ _ _ _ _ hv => sx_e_virt rfl rfl ⟨Nat.le_of_ble_eq_true rfl, Nat.le_of_ble_eq_true rfl, rfl⟩ rfl rfl rfl hv,
  fun _ _ _ _ => rfl,
  fun _ _ _ _ _ => rfl,
  fun _ _ _ _ _ => rfl,
  fun _ _ _ _ _ => rfl,
  fun _ _ _ _ _ => rfl,
  fun _ _ _ _ _ => rfl,
  fun _ _ _ _ _ => sx_e_eq rfl (by decide) rfl,
  fun _ _ _ _ => sx_e_nx rfl rfl,
  fun _ _ _ _ _ => sx_e_goto rfl (by decide),
  fun _ _ _ _ => sx_e_nx rfl rfl,
  fun _ _ _ _ _ => sx_e_ret rfl rfl rfl,
  fun _ _ _ _ => sx_e_ldc rfl rfl (by decide +kernel) rfl,
  fun _ _ _ _ _ => sx_e_ret rfl rfl rfl,
  fun _ _ _ _ => sx_e_ldc rfl rfl (by decide +kernel) rfl,
  fun _ _ _ _ _ => sx_e_ret rfl rfl rfl⟩
/-- 117: L_in ([III)I -/
theorem c117_q (S : List Int32) : ∀ (a0 : Nat) (a1 : Int32) (a2 : Int32) (h : sx_H), sx_Cl S 117 [.ref a0, .int a1, .int a2] h = sx_Ev S 117 0 [some (.ref a0), some (.int a1), some (.int a2)] [] h := fun _ _ _ _ => rfl
theorem q117 (S : List Int32) : (∀ (l1 l2 : Option Value) (x : Nat) (h : sx_H), sx_Ev S 117 0 [some (.ref x), l1, l2] [] h = sx_Ev S 117 1 [some (.ref x), l1, l2] [.ref x] h) ∧
  (∀ (l0 l2 : Option Value) (s0 : Nat) (x : Int32) (h : sx_H), sx_Ev S 117 1 [l0, some (.int x), l2] [.ref s0] h = sx_Ev S 117 2 [l0, some (.int x), l2] [.int x, .ref s0] h) ∧
  (∀ (l0 l1 l2 : Option Value) (s0 : Int32) (s1 : Nat) (h : sx_H), sx_Ev S 117 2 [l0, l1, l2] [.int s0, .ref s1] h = sx_back S 117 2 [l0, l1, l2] [] (sx_Cl S 97 [.ref s1, .int s0] h)) ∧
  (∀ (ls : sx_L) (st : List Value) (v : Value) (h : sx_H), sx_back S 117 2 ls st (some (.inl (some v), h)) = sx_Ev S 117 5 ls (v :: st) h) ∧
  (∀ (ls : sx_L) (st : List Value) (e : Nat) (h : sx_H), sx_back S 117 2 ls st (some (.inr e, h)) = some (.inr e, h)) ∧
  (∀ (l0 l1 l2 : Option Value) (s0 : Int32) (h : sx_H), sx_Ev S 117 5 [l0, l1, l2] [.int s0] h = sx_Ev S 117 7 [l0, l1, l2] [.int (sz (2147483647)), .int s0] h) ∧
  (∀ (l0 l1 l2 : Option Value) (s0 : Int32) (s1 : Int32) (h : sx_H), sx_Ev S 117 7 [l0, l1, l2] [.int s0, .int s1] h = sx_Ev S 117 8 [l0, l1, l2] [.int (s1 &&& s0)] h) ∧
  (∀ (l0 l1 : Option Value) (s0 : Int32) (x : Int32) (h : sx_H), sx_Ev S 117 8 [l0, l1, some (.int x)] [.int s0] h = sx_Ev S 117 9 [l0, l1, some (.int x)] [.int x, .int s0] h) ∧
  (∀ (l0 l1 l2 : Option Value) (s0 : Int32) (s1 : Int32) (h : sx_H), sx_Ev S 117 9 [l0, l1, l2] [.int s0, .int s1] h = if s0 = 0 then none else sx_Ev S 117 10 [l0, l1, l2] [.int (s1 - s1 / s0 * s0)] h) ∧
  (∀ (l0 l1 l2 : Option Value) (s0 : Int32) (h : sx_H), sx_Ev S 117 10 [l0, l1, l2] [.int s0] h = some (.inl (some (.int s0)), h)) := ⟨fun _ _ _ _ => sx_e_nx rfl rfl,
  fun _ _ _ _ _ => sx_e_nx rfl rfl,
  fun _ _ _ _ _ _ => sx_e_ca rfl rfl,
  fun _ _ _ _ => rfl,
  fun _ _ _ _ => rfl,
  fun _ _ _ _ _ => sx_e_ldc rfl rfl (by decide +kernel) rfl,
  fun _ _ _ _ _ _ => sx_e_nx rfl rfl,
  fun _ _ _ _ _ => sx_e_nx rfl rfl,
  fun _ _ _ _ _ _ => sx_e_rem rfl rfl,
  fun _ _ _ _ _ => sx_e_ret rfl rfl rfl⟩
/-- 118: L_makes (LBeadslant;[I[I[I[I)Z -/
theorem c118_q (S : List Int32) : ∀ (a0 : Nat) (a1 : Nat) (a2 : Nat) (a3 : Nat) (a4 : Nat) (h : sx_H), sx_Cl S 118 [.ref a0, .ref a1, .ref a2, .ref a3, .ref a4] h = sx_Ev S 118 0 [some (.ref a0), some (.ref a1), some (.ref a2), some (.ref a3), some (.ref a4), none, none] [] h := fun _ _ _ _ _ _ => rfl
theorem h118_23 (S : List Int32) : (∀ (l0 l1 l2 l3 l4 l5 : Option Value) (x : Int32) (h : sx_H), sx_Ev S 118 23 [l0, l1, l2, l3, l4, l5, some (.int x)] [] h = sx_Ev S 118 25 [l0, l1, l2, l3, l4, l5, some (.int x)] [.int x] h) := fun _ _ _ _ _ _ _ _ => sx_e_nx rfl rfl
theorem q118_0 (S : List Int32) : (∀ (l1 l2 l3 l4 l5 l6 : Option Value) (x : Nat) (h : sx_H), sx_Ev S 118 0 [some (.ref x), l1, l2, l3, l4, l5, l6] [] h = sx_Ev S 118 1 [some (.ref x), l1, l2, l3, l4, l5, l6] [.ref x] h) ∧
  (∀ (l0 l1 l2 l3 l4 l5 l6 : Option Value) (s0 : Nat) (h : sx_H), sx_Ev S 118 1 [l0, l1, l2, l3, l4, l5, l6] [.ref s0] h = sx_Ev S 118 4 [l0, l1, l2, l3, l4, l5, l6] [.int (sz (9999)), .ref s0] h) ∧
  (∀ (l0 l1 l2 l3 l4 l5 l6 : Option Value) (s0 : Int32) (s1 : Nat) (h : sx_H), sx_Ev S 118 4 [l0, l1, l2, l3, l4, l5, l6] [.int s0, .ref s1] h = sx_back S 118 4 [l0, l1, l2, l3, l4, l5, l6] [] (sx_Cl S 99 [.ref s1, .int s0] h)) ∧
  (∀ (ls : sx_L) (st : List Value) (v : Value) (h : sx_H), sx_back S 118 4 ls st (some (.inl (some v), h)) = sx_Ev S 118 7 ls (v :: st) h) ∧
  (∀ (ls : sx_L) (st : List Value) (e : Nat) (h : sx_H), sx_back S 118 4 ls st (some (.inr e, h)) = some (.inr e, h)) ∧
  (∀ (l0 l1 l2 l3 l4 l5 l6 : Option Value) (s0 : Int32) (h : sx_H), sx_Ev S 118 7 [l0, l1, l2, l3, l4, l5, l6] [.int s0] h = sx_Ev S 118 10 [l0, l1, l2, l3, l4, l5, l6] [.int (sz (9999)), .int s0] h) ∧
  (∀ (l0 l1 l2 l3 l4 l5 l6 : Option Value) (s0 : Int32) (s1 : Int32) (h : sx_H), sx_Ev S 118 10 [l0, l1, l2, l3, l4, l5, l6] [.int s0, .int s1] h = if s1 = s0 then sx_Ev S 118 13 [l0, l1, l2, l3, l4, l5, l6] [] h else sx_Ev S 118 17 [l0, l1, l2, l3, l4, l5, l6] [] h) ∧
  (∀ (l0 l1 l2 l3 l4 l5 l6 : Option Value) (h : sx_H), sx_Ev S 118 13 [l0, l1, l2, l3, l4, l5, l6] [] h = sx_Ev S 118 14 [l0, l1, l2, l3, l4, l5, l6] [.int (sz (1))] h) ∧
  (∀ (l0 l1 l2 l3 l4 l5 l6 : Option Value) (s0 : Int32) (h : sx_H), sx_Ev S 118 14 [l0, l1, l2, l3, l4, l5, l6] [.int s0] h = sx_Ev S 118 18 [l0, l1, l2, l3, l4, l5, l6] [.int s0] h) ∧
  (∀ (l0 l1 l2 l3 l4 l5 l6 : Option Value) (h : sx_H), sx_Ev S 118 17 [l0, l1, l2, l3, l4, l5, l6] [] h = sx_Ev S 118 18 [l0, l1, l2, l3, l4, l5, l6] [.int (sz (0))] h) ∧
  (∀ (l0 l1 l2 l3 l4 l5 l6 : Option Value) (s0 : Int32) (h : sx_H), sx_Ev S 118 18 [l0, l1, l2, l3, l4, l5, l6] [.int s0] h = sx_Ev S 118 20 [l0, l1, l2, l3, l4, some (.int s0), l6] [] h) ∧
  (∀ (l0 l1 l2 l3 l4 l5 l6 : Option Value) (h : sx_H), sx_Ev S 118 20 [l0, l1, l2, l3, l4, l5, l6] [] h = sx_Ev S 118 21 [l0, l1, l2, l3, l4, l5, l6] [.int (sz (0))] h) ∧
  (∀ (l0 l1 l2 l3 l4 l5 l6 : Option Value) (s0 : Int32) (h : sx_H), sx_Ev S 118 21 [l0, l1, l2, l3, l4, l5, l6] [.int s0] h = sx_Ev S 118 23 [l0, l1, l2, l3, l4, l5, some (.int s0)] [] h) ∧
  (∀ (l0 l1 l2 l3 l4 l5 l6 : Option Value) (s0 : Int32) (h : sx_H), sx_Ev S 118 25 [l0, l1, l2, l3, l4, l5, l6] [.int s0] h = sx_Ev S 118 26 [l0, l1, l2, l3, l4, l5, l6] [.int (sz (4)), .int s0] h) ∧
  (∀ (l0 l1 l2 l3 l4 l5 l6 : Option Value) (s0 : Int32) (s1 : Int32) (h : sx_H), sx_Ev S 118 26 [l0, l1, l2, l3, l4, l5, l6] [.int s0, .int s1] h = if s1 < s0 then sx_Ev S 118 29 [l0, l1, l2, l3, l4, l5, l6] [] h else sx_Ev S 118 125 [l0, l1, l2, l3, l4, l5, l6] [] h) ∧
  (∀ (l0 l1 l3 l4 l5 l6 : Option Value) (x : Nat) (h : sx_H), sx_Ev S 118 29 [l0, l1, some (.ref x), l3, l4, l5, l6] [] h = sx_Ev S 118 30 [l0, l1, some (.ref x), l3, l4, l5, l6] [.ref x] h) ∧
  (∀ (l0 l1 l2 l3 l4 l5 : Option Value) (s0 : Nat) (x : Int32) (h : sx_H), sx_Ev S 118 30 [l0, l1, l2, l3, l4, l5, some (.int x)] [.ref s0] h = sx_Ev S 118 32 [l0, l1, l2, l3, l4, l5, some (.int x)] [.int x, .ref s0] h) ∧
  (∀ (l0 l1 l2 l3 l4 l5 l6 : Option Value) (s0 : Int32) (s1 : Nat) (h : sx_H), sx_Ev S 118 32 [l0, l1, l2, l3, l4, l5, l6] [.int s0, .ref s1] h = sx_Ev S 118 34 [l0, l1, l2, l3, l4, l5, l6] [.int (sz (8)), .int s0, .ref s1] h) ∧
  (∀ (l0 l2 l3 l4 l5 l6 : Option Value) (s0 : Int32) (s1 : Int32) (s2 : Nat) (x : Nat) (h : sx_H), sx_Ev S 118 34 [l0, some (.ref x), l2, l3, l4, l5, l6] [.int s0, .int s1, .ref s2] h = sx_Ev S 118 35 [l0, some (.ref x), l2, l3, l4, l5, l6] [.ref x, .int s0, .int s1, .ref s2] h) ∧
  (∀ (l0 l1 l2 l3 l4 l5 l6 : Option Value) (s0 : Nat) (s1 : Int32) (s2 : Int32) (s3 : Nat) (h : sx_H), sx_Ev S 118 35 [l0, l1, l2, l3, l4, l5, l6] [.ref s0, .int s1, .int s2, .ref s3] h = sx_Ev S 118 38 [l0, l1, l2, l3, l4, l5, l6] [.int (sz (400)), .ref s0, .int s1, .int s2, .ref s3] h) ∧
  (∀ (l0 l1 l2 l3 l4 l5 : Option Value) (s0 : Int32) (s1 : Nat) (s2 : Int32) (s3 : Int32) (s4 : Nat) (x : Int32) (h : sx_H), sx_Ev S 118 38 [l0, l1, l2, l3, l4, l5, some (.int x)] [.int s0, .ref s1, .int s2, .int s3, .ref s4] h = sx_Ev S 118 40 [l0, l1, l2, l3, l4, l5, some (.int x)] [.int x, .int s0, .ref s1, .int s2, .int s3, .ref s4] h) ∧
  (∀ (l0 l1 l2 l3 l4 l5 l6 : Option Value) (s0 : Int32) (s1 : Int32) (s2 : Nat) (s3 : Int32) (s4 : Int32) (s5 : Nat) (h : sx_H), sx_Ev S 118 40 [l0, l1, l2, l3, l4, l5, l6] [.int s0, .int s1, .ref s2, .int s3, .int s4, .ref s5] h = sx_Ev S 118 41 [l0, l1, l2, l3, l4, l5, l6] [.int (s1 + s0), .ref s2, .int s3, .int s4, .ref s5] h) ∧
  (∀ (l0 l1 l2 l3 l4 l5 l6 : Option Value) (s0 : Int32) (s1 : Nat) (s2 : Int32) (s3 : Int32) (s4 : Nat) (h : sx_H), sx_Ev S 118 41 [l0, l1, l2, l3, l4, l5, l6] [.int s0, .ref s1, .int s2, .int s3, .ref s4] h = sx_Ev S 118 43 [l0, l1, l2, l3, l4, l5, l6] [.int (sz (23)), .int s0, .ref s1, .int s2, .int s3, .ref s4] h) ∧
  (∀ (l0 l1 l2 l3 l4 l5 l6 : Option Value) (s0 : Int32) (s1 : Int32) (s2 : Nat) (s3 : Int32) (s4 : Int32) (s5 : Nat) (h : sx_H), sx_Ev S 118 43 [l0, l1, l2, l3, l4, l5, l6] [.int s0, .int s1, .ref s2, .int s3, .int s4, .ref s5] h = sx_back S 118 43 [l0, l1, l2, l3, l4, l5, l6] [.int s3, .int s4, .ref s5] (sx_Cl S 117 [.ref s2, .int s1, .int s0] h)) ∧
  (∀ (ls : sx_L) (st : List Value) (v : Value) (h : sx_H), sx_back S 118 43 ls st (some (.inl (some v), h)) = sx_Ev S 118 46 ls (v :: st) h) ∧
  (∀ (ls : sx_L) (st : List Value) (e : Nat) (h : sx_H), sx_back S 118 43 ls st (some (.inr e, h)) = some (.inr e, h)) ∧
  (∀ (l0 l1 l2 l3 l4 l5 l6 : Option Value) (s0 : Int32) (s1 : Int32) (s2 : Int32) (s3 : Nat) (h : sx_H), sx_Ev S 118 46 [l0, l1, l2, l3, l4, l5, l6] [.int s0, .int s1, .int s2, .ref s3] h = sx_Ev S 118 47 [l0, l1, l2, l3, l4, l5, l6] [.int (s1 + s0), .int s2, .ref s3] h) ∧
  (∀ (l0 l1 l2 l3 l4 l5 l6 : Option Value) (s0 : Int32) (s1 : Int32) (s2 : Nat) (h : sx_H), sx_Ev S 118 47 [l0, l1, l2, l3, l4, l5, l6] [.int s0, .int s1, .ref s2] h = (sx_wr h s2 s1 s0).bind fun h => sx_Ev S 118 48 [l0, l1, l2, l3, l4, l5, l6] [] h) ∧
  (∀ (l0 l1 l2 l4 l5 l6 : Option Value) (x : Nat) (h : sx_H), sx_Ev S 118 48 [l0, l1, l2, some (.ref x), l4, l5, l6] [] h = sx_Ev S 118 49 [l0, l1, l2, some (.ref x), l4, l5, l6] [.ref x] h) ∧
  (∀ (l0 l1 l2 l3 l4 l5 : Option Value) (s0 : Nat) (x : Int32) (h : sx_H), sx_Ev S 118 49 [l0, l1, l2, l3, l4, l5, some (.int x)] [.ref s0] h = sx_Ev S 118 51 [l0, l1, l2, l3, l4, l5, some (.int x)] [.int x, .ref s0] h) ∧
  (∀ (l0 l1 l2 l3 l4 l5 l6 : Option Value) (s0 : Int32) (s1 : Nat) (h : sx_H), sx_Ev S 118 51 [l0, l1, l2, l3, l4, l5, l6] [.int s0, .ref s1] h = sx_Ev S 118 52 [l0, l1, l2, l3, l4, l5, l6] [.int (sz (2)), .int s0, .ref s1] h) ∧
  (∀ (l0 l2 l3 l4 l5 l6 : Option Value) (s0 : Int32) (s1 : Int32) (s2 : Nat) (x : Nat) (h : sx_H), sx_Ev S 118 52 [l0, some (.ref x), l2, l3, l4, l5, l6] [.int s0, .int s1, .ref s2] h = sx_Ev S 118 53 [l0, some (.ref x), l2, l3, l4, l5, l6] [.ref x, .int s0, .int s1, .ref s2] h) ∧
  (∀ (l0 l1 l2 l3 l4 l5 l6 : Option Value) (s0 : Nat) (s1 : Int32) (s2 : Int32) (s3 : Nat) (h : sx_H), sx_Ev S 118 53 [l0, l1, l2, l3, l4, l5, l6] [.ref s0, .int s1, .int s2, .ref s3] h = sx_Ev S 118 56 [l0, l1, l2, l3, l4, l5, l6] [.int (sz (410)), .ref s0, .int s1, .int s2, .ref s3] h) ∧
  (∀ (l0 l1 l2 l3 l4 l5 : Option Value) (s0 : Int32) (s1 : Nat) (s2 : Int32) (s3 : Int32) (s4 : Nat) (x : Int32) (h : sx_H), sx_Ev S 118 56 [l0, l1, l2, l3, l4, l5, some (.int x)] [.int s0, .ref s1, .int s2, .int s3, .ref s4] h = sx_Ev S 118 58 [l0, l1, l2, l3, l4, l5, some (.int x)] [.int x, .int s0, .ref s1, .int s2, .int s3, .ref s4] h) ∧
  (∀ (l0 l1 l2 l3 l4 l5 l6 : Option Value) (s0 : Int32) (s1 : Int32) (s2 : Nat) (s3 : Int32) (s4 : Int32) (s5 : Nat) (h : sx_H), sx_Ev S 118 58 [l0, l1, l2, l3, l4, l5, l6] [.int s0, .int s1, .ref s2, .int s3, .int s4, .ref s5] h = sx_Ev S 118 59 [l0, l1, l2, l3, l4, l5, l6] [.int (s1 + s0), .ref s2, .int s3, .int s4, .ref s5] h) ∧
  (∀ (l0 l1 l2 l3 l4 l5 l6 : Option Value) (s0 : Int32) (s1 : Nat) (s2 : Int32) (s3 : Int32) (s4 : Nat) (h : sx_H), sx_Ev S 118 59 [l0, l1, l2, l3, l4, l5, l6] [.int s0, .ref s1, .int s2, .int s3, .ref s4] h = sx_Ev S 118 61 [l0, l1, l2, l3, l4, l5, l6] [.int (sz (8)), .int s0, .ref s1, .int s2, .int s3, .ref s4] h) ∧
  (∀ (l0 l1 l2 l3 l4 l5 l6 : Option Value) (s0 : Int32) (s1 : Int32) (s2 : Nat) (s3 : Int32) (s4 : Int32) (s5 : Nat) (h : sx_H), sx_Ev S 118 61 [l0, l1, l2, l3, l4, l5, l6] [.int s0, .int s1, .ref s2, .int s3, .int s4, .ref s5] h = sx_back S 118 61 [l0, l1, l2, l3, l4, l5, l6] [.int s3, .int s4, .ref s5] (sx_Cl S 117 [.ref s2, .int s1, .int s0] h)) ∧
  (∀ (ls : sx_L) (st : List Value) (v : Value) (h : sx_H), sx_back S 118 61 ls st (some (.inl (some v), h)) = sx_Ev S 118 64 ls (v :: st) h) ∧
  (∀ (ls : sx_L) (st : List Value) (e : Nat) (h : sx_H), sx_back S 118 61 ls st (some (.inr e, h)) = some (.inr e, h)) ∧
  (∀ (l0 l1 l2 l3 l4 l5 l6 : Option Value) (s0 : Int32) (s1 : Int32) (s2 : Int32) (s3 : Nat) (h : sx_H), sx_Ev S 118 64 [l0, l1, l2, l3, l4, l5, l6] [.int s0, .int s1, .int s2, .ref s3] h = sx_Ev S 118 65 [l0, l1, l2, l3, l4, l5, l6] [.int (s1 + s0), .int s2, .ref s3] h) ∧
  (∀ (l0 l1 l2 l3 l4 l5 l6 : Option Value) (s0 : Int32) (s1 : Int32) (s2 : Nat) (h : sx_H), sx_Ev S 118 65 [l0, l1, l2, l3, l4, l5, l6] [.int s0, .int s1, .ref s2] h = (sx_wr h s2 s1 s0).bind fun h => sx_Ev S 118 66 [l0, l1, l2, l3, l4, l5, l6] [] h) ∧
  (∀ (l0 l1 l2 l3 l5 l6 : Option Value) (x : Nat) (h : sx_H), sx_Ev S 118 66 [l0, l1, l2, l3, some (.ref x), l5, l6] [] h = sx_Ev S 118 68 [l0, l1, l2, l3, some (.ref x), l5, l6] [.ref x] h) ∧
  (∀ (l0 l1 l2 l3 l4 l5 : Option Value) (s0 : Nat) (x : Int32) (h : sx_H), sx_Ev S 118 68 [l0, l1, l2, l3, l4, l5, some (.int x)] [.ref s0] h = sx_Ev S 118 70 [l0, l1, l2, l3, l4, l5, some (.int x)] [.int x, .ref s0] h) ∧
  (∀ (l0 l2 l3 l4 l5 l6 : Option Value) (s0 : Int32) (s1 : Nat) (x : Nat) (h : sx_H), sx_Ev S 118 70 [l0, some (.ref x), l2, l3, l4, l5, l6] [.int s0, .ref s1] h = sx_Ev S 118 71 [l0, some (.ref x), l2, l3, l4, l5, l6] [.ref x, .int s0, .ref s1] h) ∧
  (∀ (l0 l1 l2 l3 l4 l5 l6 : Option Value) (s0 : Nat) (s1 : Int32) (s2 : Nat) (h : sx_H), sx_Ev S 118 71 [l0, l1, l2, l3, l4, l5, l6] [.ref s0, .int s1, .ref s2] h = sx_Ev S 118 74 [l0, l1, l2, l3, l4, l5, l6] [.int (sz (420)), .ref s0, .int s1, .ref s2] h) ∧
  (∀ (l0 l1 l2 l3 l4 l5 : Option Value) (s0 : Int32) (s1 : Nat) (s2 : Int32) (s3 : Nat) (x : Int32) (h : sx_H), sx_Ev S 118 74 [l0, l1, l2, l3, l4, l5, some (.int x)] [.int s0, .ref s1, .int s2, .ref s3] h = sx_Ev S 118 76 [l0, l1, l2, l3, l4, l5, some (.int x)] [.int x, .int s0, .ref s1, .int s2, .ref s3] h) ∧
  (∀ (l0 l1 l2 l3 l4 l5 l6 : Option Value) (s0 : Int32) (s1 : Int32) (s2 : Nat) (s3 : Int32) (s4 : Nat) (h : sx_H), sx_Ev S 118 76 [l0, l1, l2, l3, l4, l5, l6] [.int s0, .int s1, .ref s2, .int s3, .ref s4] h = sx_Ev S 118 77 [l0, l1, l2, l3, l4, l5, l6] [.int (s1 + s0), .ref s2, .int s3, .ref s4] h) ∧
  (∀ (l0 l1 l2 l3 l4 l5 l6 : Option Value) (s0 : Int32) (s1 : Nat) (s2 : Int32) (s3 : Nat) (h : sx_H), sx_Ev S 118 77 [l0, l1, l2, l3, l4, l5, l6] [.int s0, .ref s1, .int s2, .ref s3] h = sx_Ev S 118 79 [l0, l1, l2, l3, l4, l5, l6] [.int (sz (100)), .int s0, .ref s1, .int s2, .ref s3] h) ∧
  (∀ (l0 l1 l2 l3 l4 l5 l6 : Option Value) (s0 : Int32) (s1 : Int32) (s2 : Nat) (s3 : Int32) (s4 : Nat) (h : sx_H), sx_Ev S 118 79 [l0, l1, l2, l3, l4, l5, l6] [.int s0, .int s1, .ref s2, .int s3, .ref s4] h = sx_back S 118 79 [l0, l1, l2, l3, l4, l5, l6] [.int s3, .ref s4] (sx_Cl S 117 [.ref s2, .int s1, .int s0] h)) ∧
  (∀ (ls : sx_L) (st : List Value) (v : Value) (h : sx_H), sx_back S 118 79 ls st (some (.inl (some v), h)) = sx_Ev S 118 82 ls (v :: st) h) ∧
  (∀ (ls : sx_L) (st : List Value) (e : Nat) (h : sx_H), sx_back S 118 79 ls st (some (.inr e, h)) = some (.inr e, h)) ∧
  (∀ (l0 l1 l2 l3 l4 l5 l6 : Option Value) (s0 : Int32) (s1 : Int32) (s2 : Nat) (h : sx_H), sx_Ev S 118 82 [l0, l1, l2, l3, l4, l5, l6] [.int s0, .int s1, .ref s2] h = (sx_wr h s2 s1 s0).bind fun h => sx_Ev S 118 83 [l0, l1, l2, l3, l4, l5, l6] [] h) ∧
  (∀ (l0 l1 l2 l3 l4 l6 : Option Value) (x : Int32) (h : sx_H), sx_Ev S 118 83 [l0, l1, l2, l3, l4, some (.int x), l6] [] h = sx_Ev S 118 85 [l0, l1, l2, l3, l4, some (.int x), l6] [.int x] h) ∧
  (∀ (l1 l2 l3 l4 l5 l6 : Option Value) (s0 : Int32) (x : Nat) (h : sx_H), sx_Ev S 118 85 [some (.ref x), l1, l2, l3, l4, l5, l6] [.int s0] h = sx_Ev S 118 86 [some (.ref x), l1, l2, l3, l4, l5, l6] [.ref x, .int s0] h) ∧
  (∀ (l0 l1 l2 l3 l4 l5 : Option Value) (s0 : Nat) (s1 : Int32) (x : Int32) (h : sx_H), sx_Ev S 118 86 [l0, l1, l2, l3, l4, l5, some (.int x)] [.ref s0, .int s1] h = sx_Ev S 118 88 [l0, l1, l2, l3, l4, l5, some (.int x)] [.int x, .ref s0, .int s1] h) ∧
  (∀ (l0 l1 l2 l3 l4 l5 l6 : Option Value) (s0 : Int32) (s1 : Nat) (s2 : Int32) (h : sx_H), sx_Ev S 118 88 [l0, l1, l2, l3, l4, l5, l6] [.int s0, .ref s1, .int s2] h = sx_Ev S 118 89 [l0, l1, l2, l3, l4, l5, l6] [.int (sz (3)), .int s0, .ref s1, .int s2] h) ∧
  (∀ (l0 l1 l2 l3 l4 l5 l6 : Option Value) (s0 : Int32) (s1 : Int32) (s2 : Nat) (s3 : Int32) (h : sx_H), sx_Ev S 118 89 [l0, l1, l2, l3, l4, l5, l6] [.int s0, .int s1, .ref s2, .int s3] h = if s0 = 0 then none else sx_Ev S 118 90 [l0, l1, l2, l3, l4, l5, l6] [.int (s1 - s1 / s0 * s0), .ref s2, .int s3] h) ∧
  (∀ (l0 l1 l3 l4 l5 l6 : Option Value) (s0 : Int32) (s1 : Nat) (s2 : Int32) (x : Nat) (h : sx_H), sx_Ev S 118 90 [l0, l1, some (.ref x), l3, l4, l5, l6] [.int s0, .ref s1, .int s2] h = sx_Ev S 118 91 [l0, l1, some (.ref x), l3, l4, l5, l6] [.ref x, .int s0, .ref s1, .int s2] h) ∧
  (∀ (l0 l1 l2 l3 l4 l5 : Option Value) (s0 : Nat) (s1 : Int32) (s2 : Nat) (s3 : Int32) (x : Int32) (h : sx_H), sx_Ev S 118 91 [l0, l1, l2, l3, l4, l5, some (.int x)] [.ref s0, .int s1, .ref s2, .int s3] h = sx_Ev S 118 93 [l0, l1, l2, l3, l4, l5, some (.int x)] [.int x, .ref s0, .int s1, .ref s2, .int s3] h) ∧
  (∀ (l0 l1 l2 l3 l4 l5 l6 : Option Value) (s0 : Int32) (s1 : Nat) (s2 : Int32) (s3 : Nat) (s4 : Int32) (h : sx_H), sx_Ev S 118 93 [l0, l1, l2, l3, l4, l5, l6] [.int s0, .ref s1, .int s2, .ref s3, .int s4] h = (sx_rd S h s1 s0).bind fun v => sx_Ev S 118 94 [l0, l1, l2, l3, l4, l5, l6] [.int v, .int s2, .ref s3, .int s4] h) := ⟨fun _ _ _ _ _ _ _ _ => sx_e_nx rfl rfl,
  fun _ _ _ _ _ _ _ _ _ => sx_e_si rfl (by decide +kernel) rfl,
  fun _ _ _ _ _ _ _ _ _ _ => sx_e_ca rfl rfl,
  fun _ _ _ _ => rfl,
  fun _ _ _ _ => rfl,
  fun _ _ _ _ _ _ _ _ _ => sx_e_si rfl (by decide +kernel) rfl,
  fun _ _ _ _ _ _ _ _ _ _ => sx_e_ine rfl (by decide) rfl,
  fun _ _ _ _ _ _ _ _ => sx_e_nx rfl rfl,
  fun _ _ _ _ _ _ _ _ _ => sx_e_goto rfl (by decide),
  fun _ _ _ _ _ _ _ _ => sx_e_nx rfl rfl,
  fun _ _ _ _ _ _ _ _ _ => sx_e_nx rfl rfl,
  fun _ _ _ _ _ _ _ _ => sx_e_nx rfl rfl,
  fun _ _ _ _ _ _ _ _ _ => sx_e_nx rfl rfl,
  fun _ _ _ _ _ _ _ _ _ => sx_e_nx rfl rfl,
  fun _ _ _ _ _ _ _ _ _ _ => sx_e_ige rfl (by decide) rfl,
  fun _ _ _ _ _ _ _ _ => sx_e_nx rfl rfl,
  fun _ _ _ _ _ _ _ _ _ => sx_e_nx rfl rfl,
  fun _ _ _ _ _ _ _ _ _ _ => sx_e_bi rfl (by decide +kernel) rfl,
  fun _ _ _ _ _ _ _ _ _ _ _ => sx_e_nx rfl rfl,
  fun _ _ _ _ _ _ _ _ _ _ _ _ => sx_e_si rfl (by decide +kernel) rfl,
  fun _ _ _ _ _ _ _ _ _ _ _ _ _ => sx_e_nx rfl rfl,
  fun _ _ _ _ _ _ _ _ _ _ _ _ _ _ => sx_e_nx rfl rfl,
  fun _ _ _ _ _ _ _ _ _ _ _ _ _ => sx_e_bi rfl (by decide +kernel) rfl,
  fun _ _ _ _ _ _ _ _ _ _ _ _ _ _ => sx_e_ca rfl rfl,
  fun _ _ _ _ => rfl,
  fun _ _ _ _ => rfl,
  fun _ _ _ _ _ _ _ _ _ _ _ _ => sx_e_nx rfl rfl,
  fun _ _ _ _ _ _ _ _ _ _ _ => sx_e_iast rfl rfl,
  fun _ _ _ _ _ _ _ _ => sx_e_nx rfl rfl,
  fun _ _ _ _ _ _ _ _ _ => sx_e_nx rfl rfl,
  fun _ _ _ _ _ _ _ _ _ _ => sx_e_nx rfl rfl,
  fun _ _ _ _ _ _ _ _ _ _ _ => sx_e_nx rfl rfl,
  fun _ _ _ _ _ _ _ _ _ _ _ _ => sx_e_si rfl (by decide +kernel) rfl,
  fun _ _ _ _ _ _ _ _ _ _ _ _ _ => sx_e_nx rfl rfl,
  fun _ _ _ _ _ _ _ _ _ _ _ _ _ _ => sx_e_nx rfl rfl,
  fun _ _ _ _ _ _ _ _ _ _ _ _ _ => sx_e_bi rfl (by decide +kernel) rfl,
  fun _ _ _ _ _ _ _ _ _ _ _ _ _ _ => sx_e_ca rfl rfl,
  fun _ _ _ _ => rfl,
  fun _ _ _ _ => rfl,
  fun _ _ _ _ _ _ _ _ _ _ _ _ => sx_e_nx rfl rfl,
  fun _ _ _ _ _ _ _ _ _ _ _ => sx_e_iast rfl rfl,
  fun _ _ _ _ _ _ _ _ => sx_e_nx rfl rfl,
  fun _ _ _ _ _ _ _ _ _ => sx_e_nx rfl rfl,
  fun _ _ _ _ _ _ _ _ _ _ => sx_e_nx rfl rfl,
  fun _ _ _ _ _ _ _ _ _ _ _ => sx_e_si rfl (by decide +kernel) rfl,
  fun _ _ _ _ _ _ _ _ _ _ _ _ => sx_e_nx rfl rfl,
  fun _ _ _ _ _ _ _ _ _ _ _ _ _ => sx_e_nx rfl rfl,
  fun _ _ _ _ _ _ _ _ _ _ _ _ => sx_e_bi rfl (by decide +kernel) rfl,
  fun _ _ _ _ _ _ _ _ _ _ _ _ _ => sx_e_ca rfl rfl,
  fun _ _ _ _ => rfl,
  fun _ _ _ _ => rfl,
  fun _ _ _ _ _ _ _ _ _ _ _ => sx_e_iast rfl rfl,
  fun _ _ _ _ _ _ _ _ => sx_e_nx rfl rfl,
  fun _ _ _ _ _ _ _ _ _ => sx_e_nx rfl rfl,
  fun _ _ _ _ _ _ _ _ _ _ => sx_e_nx rfl rfl,
  fun _ _ _ _ _ _ _ _ _ _ _ => sx_e_nx rfl rfl,
  fun _ _ _ _ _ _ _ _ _ _ _ _ => sx_e_rem rfl rfl,
  fun _ _ _ _ _ _ _ _ _ _ _ => sx_e_nx rfl rfl,
  fun _ _ _ _ _ _ _ _ _ _ _ _ => sx_e_nx rfl rfl,
  fun _ _ _ _ _ _ _ _ _ _ _ _ _ => sx_e_iald rfl rfl⟩
theorem q118_1 (S : List Int32) : (∀ (l0 l1 l2 l4 l5 l6 : Option Value) (s0 : Int32) (s1 : Int32) (s2 : Nat) (s3 : Int32) (x : Nat) (h : sx_H), sx_Ev S 118 94 [l0, l1, l2, some (.ref x), l4, l5, l6] [.int s0, .int s1, .ref s2, .int s3] h = sx_Ev S 118 95 [l0, l1, l2, some (.ref x), l4, l5, l6] [.ref x, .int s0, .int s1, .ref s2, .int s3] h) ∧
  (∀ (l0 l1 l2 l3 l4 l5 : Option Value) (s0 : Nat) (s1 : Int32) (s2 : Int32) (s3 : Nat) (s4 : Int32) (x : Int32) (h : sx_H), sx_Ev S 118 95 [l0, l1, l2, l3, l4, l5, some (.int x)] [.ref s0, .int s1, .int s2, .ref s3, .int s4] h = sx_Ev S 118 97 [l0, l1, l2, l3, l4, l5, some (.int x)] [.int x, .ref s0, .int s1, .int s2, .ref s3, .int s4] h) ∧
  (∀ (l0 l1 l2 l3 l4 l5 l6 : Option Value) (s0 : Int32) (s1 : Nat) (s2 : Int32) (s3 : Int32) (s4 : Nat) (s5 : Int32) (h : sx_H), sx_Ev S 118 97 [l0, l1, l2, l3, l4, l5, l6] [.int s0, .ref s1, .int s2, .int s3, .ref s4, .int s5] h = (sx_rd S h s1 s0).bind fun v => sx_Ev S 118 98 [l0, l1, l2, l3, l4, l5, l6] [.int v, .int s2, .int s3, .ref s4, .int s5] h) ∧
  (∀ (l0 l1 l2 l3 l5 l6 : Option Value) (s0 : Int32) (s1 : Int32) (s2 : Int32) (s3 : Nat) (s4 : Int32) (x : Nat) (h : sx_H), sx_Ev S 118 98 [l0, l1, l2, l3, some (.ref x), l5, l6] [.int s0, .int s1, .int s2, .ref s3, .int s4] h = sx_Ev S 118 100 [l0, l1, l2, l3, some (.ref x), l5, l6] [.ref x, .int s0, .int s1, .int s2, .ref s3, .int s4] h) ∧
  (∀ (l0 l1 l2 l3 l4 l5 : Option Value) (s0 : Nat) (s1 : Int32) (s2 : Int32) (s3 : Int32) (s4 : Nat) (s5 : Int32) (x : Int32) (h : sx_H), sx_Ev S 118 100 [l0, l1, l2, l3, l4, l5, some (.int x)] [.ref s0, .int s1, .int s2, .int s3, .ref s4, .int s5] h = sx_Ev S 118 102 [l0, l1, l2, l3, l4, l5, some (.int x)] [.int x, .ref s0, .int s1, .int s2, .int s3, .ref s4, .int s5] h) ∧
  (∀ (l0 l1 l2 l3 l4 l5 l6 : Option Value) (s0 : Int32) (s1 : Nat) (s2 : Int32) (s3 : Int32) (s4 : Int32) (s5 : Nat) (s6 : Int32) (h : sx_H), sx_Ev S 118 102 [l0, l1, l2, l3, l4, l5, l6] [.int s0, .ref s1, .int s2, .int s3, .int s4, .ref s5, .int s6] h = (sx_rd S h s1 s0).bind fun v => sx_Ev S 118 103 [l0, l1, l2, l3, l4, l5, l6] [.int v, .int s2, .int s3, .int s4, .ref s5, .int s6] h) ∧
  (∀ (l0 l1 l2 l3 l4 l5 l6 : Option Value) (s0 : Int32) (s1 : Int32) (s2 : Int32) (s3 : Int32) (s4 : Nat) (s5 : Int32) (h : sx_H), sx_Ev S 118 103 [l0, l1, l2, l3, l4, l5, l6] [.int s0, .int s1, .int s2, .int s3, .ref s4, .int s5] h = sx_back S 118 103 [l0, l1, l2, l3, l4, l5, l6] [.int s5] (sx_Cl S 98 [.ref s4, .int s3, .int s2, .int s1, .int s0] h)) ∧
  (∀ (ls : sx_L) (st : List Value) (v : Value) (h : sx_H), sx_back S 118 103 ls st (some (.inl (some v), h)) = sx_Ev S 118 106 ls (v :: st) h) ∧
  (∀ (ls : sx_L) (st : List Value) (e : Nat) (h : sx_H), sx_back S 118 103 ls st (some (.inr e, h)) = some (.inr e, h)) ∧
  (∀ (l0 l1 l2 l3 l4 l5 : Option Value) (s0 : Int32) (s1 : Int32) (x : Int32) (h : sx_H), sx_Ev S 118 106 [l0, l1, l2, l3, l4, l5, some (.int x)] [.int s0, .int s1] h = sx_Ev S 118 108 [l0, l1, l2, l3, l4, l5, some (.int x)] [.int x, .int s0, .int s1] h) ∧
  (∀ (l0 l1 l2 l3 l4 l5 l6 : Option Value) (s0 : Int32) (s1 : Int32) (s2 : Int32) (h : sx_H), sx_Ev S 118 108 [l0, l1, l2, l3, l4, l5, l6] [.int s0, .int s1, .int s2] h = if s1 = s0 then sx_Ev S 118 111 [l0, l1, l2, l3, l4, l5, l6] [.int s2] h else sx_Ev S 118 115 [l0, l1, l2, l3, l4, l5, l6] [.int s2] h) ∧
  (∀ (l0 l1 l2 l3 l4 l5 l6 : Option Value) (s0 : Int32) (h : sx_H), sx_Ev S 118 111 [l0, l1, l2, l3, l4, l5, l6] [.int s0] h = sx_Ev S 118 112 [l0, l1, l2, l3, l4, l5, l6] [.int (sz (1)), .int s0] h) ∧
  (∀ (l0 l1 l2 l3 l4 l5 l6 : Option Value) (s0 : Int32) (s1 : Int32) (h : sx_H), sx_Ev S 118 112 [l0, l1, l2, l3, l4, l5, l6] [.int s0, .int s1] h = sx_Ev S 118 116 [l0, l1, l2, l3, l4, l5, l6] [.int s0, .int s1] h) ∧
  (∀ (l0 l1 l2 l3 l4 l5 l6 : Option Value) (s0 : Int32) (h : sx_H), sx_Ev S 118 115 [l0, l1, l2, l3, l4, l5, l6] [.int s0] h = sx_Ev S 118 116 [l0, l1, l2, l3, l4, l5, l6] [.int (sz (0)), .int s0] h) ∧
  (∀ (l0 l1 l2 l3 l4 l5 l6 : Option Value) (s0 : Int32) (s1 : Int32) (h : sx_H), sx_Ev S 118 116 [l0, l1, l2, l3, l4, l5, l6] [.int s0, .int s1] h = sx_Ev S 118 117 [l0, l1, l2, l3, l4, l5, l6] [.int (s1 &&& s0)] h) ∧
  (∀ (l0 l1 l2 l3 l4 l5 l6 : Option Value) (s0 : Int32) (h : sx_H), sx_Ev S 118 117 [l0, l1, l2, l3, l4, l5, l6] [.int s0] h = sx_Ev S 118 119 [l0, l1, l2, l3, l4, some (.int s0), l6] [] h) ∧
  (∀ (l0 l1 l2 l3 l4 l5 : Option Value) (x : Int32) (h : sx_H), sx_Ev S 118 119 [l0, l1, l2, l3, l4, l5, some (.int x)] [] h = sx_Ev S 118 122 [l0, l1, l2, l3, l4, l5, some (.int (x + sz (1)))] [] h) ∧
  (∀ (l0 l1 l2 l3 l4 l5 l6 : Option Value) (h : sx_H), sx_Ev S 118 122 [l0, l1, l2, l3, l4, l5, l6] [] h = sx_Ev S 118 23 [l0, l1, l2, l3, l4, l5, l6] [] h) ∧
  (∀ (l0 l1 l2 l3 l4 l6 : Option Value) (x : Int32) (h : sx_H), sx_Ev S 118 125 [l0, l1, l2, l3, l4, some (.int x), l6] [] h = sx_Ev S 118 127 [l0, l1, l2, l3, l4, some (.int x), l6] [.int x] h) ∧
  (∀ (l0 l1 l2 l3 l4 l5 l6 : Option Value) (s0 : Int32) (h : sx_H), narrow .boolean (.int s0) = .int s0 → sx_Ev S 118 127 [l0, l1, l2, l3, l4, l5, l6] [.int s0] h = some (.inl (some (.int s0)), h)) := ⟨fun _ _ _ _ _ _ _ _ _ _ _ _ => sx_e_nx rfl rfl,
  fun _ _ _ _ _ _ _ _ _ _ _ _ _ => sx_e_nx rfl rfl,
  fun _ _ _ _ _ _ _ _ _ _ _ _ _ _ => sx_e_iald rfl rfl,
  fun _ _ _ _ _ _ _ _ _ _ _ _ _ => sx_e_nx rfl rfl,
  fun _ _ _ _ _ _ _ _ _ _ _ _ _ _ => sx_e_nx rfl rfl,
  fun _ _ _ _ _ _ _ _ _ _ _ _ _ _ _ => sx_e_iald rfl rfl,
  fun _ _ _ _ _ _ _ _ _ _ _ _ _ _ => sx_e_ca rfl rfl,
  fun _ _ _ _ => rfl,
  fun _ _ _ _ => rfl,
  fun _ _ _ _ _ _ _ _ _ _ => sx_e_nx rfl rfl,
  fun _ _ _ _ _ _ _ _ _ _ _ => sx_e_ine rfl (by decide) rfl,
  fun _ _ _ _ _ _ _ _ _ => sx_e_nx rfl rfl,
  fun _ _ _ _ _ _ _ _ _ _ => sx_e_goto rfl (by decide),
  fun _ _ _ _ _ _ _ _ _ => sx_e_nx rfl rfl,
  fun _ _ _ _ _ _ _ _ _ _ => sx_e_nx rfl rfl,
  fun _ _ _ _ _ _ _ _ _ => sx_e_nx rfl rfl,
  fun _ _ _ _ _ _ _ _ => sx_e_nx rfl rfl,
  fun _ _ _ _ _ _ _ _ => sx_e_goto rfl (by decide),
  fun _ _ _ _ _ _ _ _ => sx_e_nx rfl rfl,
  fun _ _ _ _ _ _ _ _ _ hv => sx_e_ret rfl rfl hv⟩
/-- 119: L_areNeighbours (CIIII)Z -/
theorem c119_q (S : List Int32) : ∀ (a0 : Int32) (a1 : Int32) (a2 : Int32) (a3 : Int32) (a4 : Int32) (h : sx_H), sx_Cl S 119 [.int a0, .int a1, .int a2, .int a3, .int a4] h = sx_Ev S 119 0 [some (.int a0), some (.int a1), some (.int a2), some (.int a3), some (.int a4), none, none] [] h := fun _ _ _ _ _ _ => rfl
theorem q119_0 (S : List Int32) : (∀ (l0 l1 l2 l4 l5 l6 : Option Value) (x : Int32) (h : sx_H), sx_Ev S 119 0 [l0, l1, l2, some (.int x), l4, l5, l6] [] h = sx_Ev S 119 1 [l0, l1, l2, some (.int x), l4, l5, l6] [.int x] h) ∧
  (∀ (l0 l2 l3 l4 l5 l6 : Option Value) (s0 : Int32) (x : Int32) (h : sx_H), sx_Ev S 119 1 [l0, some (.int x), l2, l3, l4, l5, l6] [.int s0] h = sx_Ev S 119 2 [l0, some (.int x), l2, l3, l4, l5, l6] [.int x, .int s0] h) ∧
  (∀ (l0 l1 l2 l3 l4 l5 l6 : Option Value) (s0 : Int32) (s1 : Int32) (h : sx_H), sx_Ev S 119 2 [l0, l1, l2, l3, l4, l5, l6] [.int s0, .int s1] h = sx_Ev S 119 3 [l0, l1, l2, l3, l4, l5, l6] [.int (s1 - s0)] h) ∧
  (∀ (l0 l1 l2 l3 l4 l5 l6 : Option Value) (s0 : Int32) (h : sx_H), sx_Ev S 119 3 [l0, l1, l2, l3, l4, l5, l6] [.int s0] h = sx_Ev S 119 5 [l0, l1, l2, l3, l4, some (.int s0), l6] [] h) ∧
  (∀ (l0 l1 l2 l3 l5 l6 : Option Value) (x : Int32) (h : sx_H), sx_Ev S 119 5 [l0, l1, l2, l3, some (.int x), l5, l6] [] h = sx_Ev S 119 7 [l0, l1, l2, l3, some (.int x), l5, l6] [.int x] h) ∧
  (∀ (l0 l1 l3 l4 l5 l6 : Option Value) (s0 : Int32) (x : Int32) (h : sx_H), sx_Ev S 119 7 [l0, l1, some (.int x), l3, l4, l5, l6] [.int s0] h = sx_Ev S 119 8 [l0, l1, some (.int x), l3, l4, l5, l6] [.int x, .int s0] h) ∧
  (∀ (l0 l1 l2 l3 l4 l5 l6 : Option Value) (s0 : Int32) (s1 : Int32) (h : sx_H), sx_Ev S 119 8 [l0, l1, l2, l3, l4, l5, l6] [.int s0, .int s1] h = sx_Ev S 119 9 [l0, l1, l2, l3, l4, l5, l6] [.int (s1 - s0)] h) ∧
  (∀ (l0 l1 l2 l3 l4 l5 l6 : Option Value) (s0 : Int32) (h : sx_H), sx_Ev S 119 9 [l0, l1, l2, l3, l4, l5, l6] [.int s0] h = sx_Ev S 119 11 [l0, l1, l2, l3, l4, l5, some (.int s0)] [] h) ∧
  (∀ (l0 l1 l2 l3 l4 l6 : Option Value) (x : Int32) (h : sx_H), sx_Ev S 119 11 [l0, l1, l2, l3, l4, some (.int x), l6] [] h = sx_Ev S 119 13 [l0, l1, l2, l3, l4, some (.int x), l6] [.int x] h) ∧
  (∀ (l0 l1 l2 l3 l4 l6 : Option Value) (s0 : Int32) (x : Int32) (h : sx_H), sx_Ev S 119 13 [l0, l1, l2, l3, l4, some (.int x), l6] [.int s0] h = sx_Ev S 119 15 [l0, l1, l2, l3, l4, some (.int x), l6] [.int x, .int s0] h) ∧
  (∀ (l0 l1 l2 l3 l4 l5 l6 : Option Value) (s0 : Int32) (s1 : Int32) (h : sx_H), sx_Ev S 119 15 [l0, l1, l2, l3, l4, l5, l6] [.int s0, .int s1] h = sx_Ev S 119 16 [l0, l1, l2, l3, l4, l5, l6] [.int (s1 * s0)] h) ∧
  (∀ (l0 l1 l2 l3 l4 l5 : Option Value) (s0 : Int32) (x : Int32) (h : sx_H), sx_Ev S 119 16 [l0, l1, l2, l3, l4, l5, some (.int x)] [.int s0] h = sx_Ev S 119 18 [l0, l1, l2, l3, l4, l5, some (.int x)] [.int x, .int s0] h) ∧
  (∀ (l0 l1 l2 l3 l4 l5 : Option Value) (s0 : Int32) (s1 : Int32) (x : Int32) (h : sx_H), sx_Ev S 119 18 [l0, l1, l2, l3, l4, l5, some (.int x)] [.int s0, .int s1] h = sx_Ev S 119 20 [l0, l1, l2, l3, l4, l5, some (.int x)] [.int x, .int s0, .int s1] h) ∧
  (∀ (l0 l1 l2 l3 l4 l5 l6 : Option Value) (s0 : Int32) (s1 : Int32) (s2 : Int32) (h : sx_H), sx_Ev S 119 20 [l0, l1, l2, l3, l4, l5, l6] [.int s0, .int s1, .int s2] h = sx_Ev S 119 21 [l0, l1, l2, l3, l4, l5, l6] [.int (s1 * s0), .int s2] h) ∧
  (∀ (l0 l1 l2 l3 l4 l5 l6 : Option Value) (s0 : Int32) (s1 : Int32) (h : sx_H), sx_Ev S 119 21 [l0, l1, l2, l3, l4, l5, l6] [.int s0, .int s1] h = sx_Ev S 119 22 [l0, l1, l2, l3, l4, l5, l6] [.int (s1 + s0)] h) ∧
  (∀ (l0 l1 l2 l3 l4 l5 l6 : Option Value) (s0 : Int32) (h : sx_H), sx_Ev S 119 22 [l0, l1, l2, l3, l4, l5, l6] [.int s0] h = sx_Ev S 119 23 [l0, l1, l2, l3, l4, l5, l6] [.int (sz (1)), .int s0] h) ∧
  (∀ (l0 l1 l2 l3 l4 l5 l6 : Option Value) (s0 : Int32) (s1 : Int32) (h : sx_H), sx_Ev S 119 23 [l0, l1, l2, l3, l4, l5, l6] [.int s0, .int s1] h = if s1 = s0 then sx_Ev S 119 26 [l0, l1, l2, l3, l4, l5, l6] [] h else sx_Ev S 119 28 [l0, l1, l2, l3, l4, l5, l6] [] h) ∧
  (∀ (l0 l1 l2 l3 l4 l5 l6 : Option Value) (h : sx_H), sx_Ev S 119 26 [l0, l1, l2, l3, l4, l5, l6] [] h = sx_Ev S 119 27 [l0, l1, l2, l3, l4, l5, l6] [.int (sz (1))] h) ∧
  (∀ (l0 l1 l2 l3 l4 l5 l6 : Option Value) (s0 : Int32) (h : sx_H), narrow .boolean (.int s0) = .int s0 → sx_Ev S 119 27 [l0, l1, l2, l3, l4, l5, l6] [.int s0] h = some (.inl (some (.int s0)), h)) ∧
  (∀ (l1 l2 l3 l4 l5 l6 : Option Value) (x : Int32) (h : sx_H), sx_Ev S 119 28 [some (.int x), l1, l2, l3, l4, l5, l6] [] h = sx_Ev S 119 29 [some (.int x), l1, l2, l3, l4, l5, l6] [.int x] h) ∧
  (∀ (l0 l1 l2 l3 l4 l5 l6 : Option Value) (s0 : Int32) (h : sx_H), sx_Ev S 119 29 [l0, l1, l2, l3, l4, l5, l6] [.int s0] h = sx_Ev S 119 31 [l0, l1, l2, l3, l4, l5, l6] [.int (sz (112)), .int s0] h) ∧
  (∀ (l0 l1 l2 l3 l4 l5 l6 : Option Value) (s0 : Int32) (s1 : Int32) (h : sx_H), sx_Ev S 119 31 [l0, l1, l2, l3, l4, l5, l6] [.int s0, .int s1] h = if s1 = s0 then sx_Ev S 119 34 [l0, l1, l2, l3, l4, l5, l6] [] h else sx_Ev S 119 74 [l0, l1, l2, l3, l4, l5, l6] [] h) ∧
  (∀ (l0 l1 l2 l3 l4 l5 : Option Value) (x : Int32) (h : sx_H), sx_Ev S 119 34 [l0, l1, l2, l3, l4, l5, some (.int x)] [] h = sx_Ev S 119 36 [l0, l1, l2, l3, l4, l5, some (.int x)] [.int x] h) ∧
  (∀ (l0 l1 l2 l3 l4 l5 : Option Value) (s0 : Int32) (x : Int32) (h : sx_H), sx_Ev S 119 36 [l0, l1, l2, l3, l4, l5, some (.int x)] [.int s0] h = sx_Ev S 119 38 [l0, l1, l2, l3, l4, l5, some (.int x)] [.int x, .int s0] h) ∧
  (∀ (l0 l1 l2 l3 l4 l5 l6 : Option Value) (s0 : Int32) (s1 : Int32) (h : sx_H), sx_Ev S 119 38 [l0, l1, l2, l3, l4, l5, l6] [.int s0, .int s1] h = sx_Ev S 119 39 [l0, l1, l2, l3, l4, l5, l6] [.int (s1 * s0)] h) ∧
  (∀ (l0 l1 l2 l3 l4 l5 l6 : Option Value) (s0 : Int32) (h : sx_H), sx_Ev S 119 39 [l0, l1, l2, l3, l4, l5, l6] [.int s0] h = sx_Ev S 119 40 [l0, l1, l2, l3, l4, l5, l6] [.int (sz (1)), .int s0] h) ∧
  (∀ (l0 l1 l2 l3 l4 l5 l6 : Option Value) (s0 : Int32) (s1 : Int32) (h : sx_H), sx_Ev S 119 40 [l0, l1, l2, l3, l4, l5, l6] [.int s0, .int s1] h = if s1 = s0 then sx_Ev S 119 43 [l0, l1, l2, l3, l4, l5, l6] [] h else sx_Ev S 119 74 [l0, l1, l2, l3, l4, l5, l6] [] h) ∧
  (∀ (l0 l1 l2 l3 l4 l6 : Option Value) (x : Int32) (h : sx_H), sx_Ev S 119 43 [l0, l1, l2, l3, l4, some (.int x), l6] [] h = sx_Ev S 119 45 [l0, l1, l2, l3, l4, some (.int x), l6] [.int x] h) ∧
  (∀ (l0 l1 l2 l3 l4 l5 l6 : Option Value) (s0 : Int32) (h : sx_H), sx_Ev S 119 45 [l0, l1, l2, l3, l4, l5, l6] [.int s0] h = sx_Ev S 119 46 [l0, l1, l2, l3, l4, l5, l6] [.int (sz (1)), .int s0] h) ∧
  (∀ (l0 l1 l2 l3 l4 l5 l6 : Option Value) (s0 : Int32) (s1 : Int32) (h : sx_H), sx_Ev S 119 46 [l0, l1, l2, l3, l4, l5, l6] [.int s0, .int s1] h = if s1 = s0 then sx_Ev S 119 49 [l0, l1, l2, l3, l4, l5, l6] [] h else sx_Ev S 119 56 [l0, l1, l2, l3, l4, l5, l6] [] h) ∧
  (∀ (l0 l1 l3 l4 l5 l6 : Option Value) (x : Int32) (h : sx_H), sx_Ev S 119 49 [l0, l1, some (.int x), l3, l4, l5, l6] [] h = sx_Ev S 119 50 [l0, l1, some (.int x), l3, l4, l5, l6] [.int x] h) ∧
  (∀ (l0 l1 l2 l3 l4 l5 l6 : Option Value) (s0 : Int32) (h : sx_H), sx_Ev S 119 50 [l0, l1, l2, l3, l4, l5, l6] [.int s0] h = sx_Ev S 119 51 [l0, l1, l2, l3, l4, l5, l6] [.int (sz (2)), .int s0] h) ∧
  (∀ (l0 l1 l2 l3 l4 l5 l6 : Option Value) (s0 : Int32) (s1 : Int32) (h : sx_H), sx_Ev S 119 51 [l0, l1, l2, l3, l4, l5, l6] [.int s0, .int s1] h = if s0 = 0 then none else sx_Ev S 119 52 [l0, l1, l2, l3, l4, l5, l6] [.int (s1 - s1 / s0 * s0)] h) ∧
  (∀ (l0 l1 l2 l3 l4 l5 l6 : Option Value) (s0 : Int32) (h : sx_H), sx_Ev S 119 52 [l0, l1, l2, l3, l4, l5, l6] [.int s0] h = sx_Ev S 119 53 [l0, l1, l2, l3, l4, l5, l6] [.int (sz (1)), .int s0] h) ∧
  (∀ (l0 l1 l2 l3 l4 l5 l6 : Option Value) (s0 : Int32) (s1 : Int32) (h : sx_H), sx_Ev S 119 53 [l0, l1, l2, l3, l4, l5, l6] [.int s0, .int s1] h = if s1 = s0 then sx_Ev S 119 68 [l0, l1, l2, l3, l4, l5, l6] [] h else sx_Ev S 119 56 [l0, l1, l2, l3, l4, l5, l6] [] h) ∧
  (∀ (l0 l1 l2 l3 l4 l6 : Option Value) (x : Int32) (h : sx_H), sx_Ev S 119 56 [l0, l1, l2, l3, l4, some (.int x), l6] [] h = sx_Ev S 119 58 [l0, l1, l2, l3, l4, some (.int x), l6] [.int x] h) ∧
  (∀ (l0 l1 l2 l3 l4 l5 l6 : Option Value) (s0 : Int32) (h : sx_H), sx_Ev S 119 58 [l0, l1, l2, l3, l4, l5, l6] [.int s0] h = sx_Ev S 119 59 [l0, l1, l2, l3, l4, l5, l6] [.int (sz (-1)), .int s0] h) ∧
  (∀ (l0 l1 l2 l3 l4 l5 l6 : Option Value) (s0 : Int32) (s1 : Int32) (h : sx_H), sx_Ev S 119 59 [l0, l1, l2, l3, l4, l5, l6] [.int s0, .int s1] h = if s1 = s0 then sx_Ev S 119 62 [l0, l1, l2, l3, l4, l5, l6] [] h else sx_Ev S 119 72 [l0, l1, l2, l3, l4, l5, l6] [] h) ∧
  (∀ (l0 l1 l3 l4 l5 l6 : Option Value) (x : Int32) (h : sx_H), sx_Ev S 119 62 [l0, l1, some (.int x), l3, l4, l5, l6] [] h = sx_Ev S 119 63 [l0, l1, some (.int x), l3, l4, l5, l6] [.int x] h) ∧
  (∀ (l0 l1 l2 l3 l4 l5 l6 : Option Value) (s0 : Int32) (h : sx_H), sx_Ev S 119 63 [l0, l1, l2, l3, l4, l5, l6] [.int s0] h = sx_Ev S 119 64 [l0, l1, l2, l3, l4, l5, l6] [.int (sz (2)), .int s0] h) ∧
  (∀ (l0 l1 l2 l3 l4 l5 l6 : Option Value) (s0 : Int32) (s1 : Int32) (h : sx_H), sx_Ev S 119 64 [l0, l1, l2, l3, l4, l5, l6] [.int s0, .int s1] h = if s0 = 0 then none else sx_Ev S 119 65 [l0, l1, l2, l3, l4, l5, l6] [.int (s1 - s1 / s0 * s0)] h) ∧
  (∀ (l0 l1 l2 l3 l4 l5 l6 : Option Value) (s0 : Int32) (h : sx_H), sx_Ev S 119 65 [l0, l1, l2, l3, l4, l5, l6] [.int s0] h = if s0 = 0 then sx_Ev S 119 68 [l0, l1, l2, l3, l4, l5, l6] [] h else sx_Ev S 119 72 [l0, l1, l2, l3, l4, l5, l6] [] h) ∧
  (∀ (l0 l1 l2 l3 l4 l5 l6 : Option Value) (h : sx_H), sx_Ev S 119 68 [l0, l1, l2, l3, l4, l5, l6] [] h = sx_Ev S 119 69 [l0, l1, l2, l3, l4, l5, l6] [.int (sz (1))] h) ∧
  (∀ (l0 l1 l2 l3 l4 l5 l6 : Option Value) (s0 : Int32) (h : sx_H), sx_Ev S 119 69 [l0, l1, l2, l3, l4, l5, l6] [.int s0] h = sx_Ev S 119 73 [l0, l1, l2, l3, l4, l5, l6] [.int s0] h) ∧
  (∀ (l0 l1 l2 l3 l4 l5 l6 : Option Value) (h : sx_H), sx_Ev S 119 72 [l0, l1, l2, l3, l4, l5, l6] [] h = sx_Ev S 119 73 [l0, l1, l2, l3, l4, l5, l6] [.int (sz (0))] h) ∧
  (∀ (l0 l1 l2 l3 l4 l5 l6 : Option Value) (s0 : Int32) (h : sx_H), narrow .boolean (.int s0) = .int s0 → sx_Ev S 119 73 [l0, l1, l2, l3, l4, l5, l6] [.int s0] h = some (.inl (some (.int s0)), h)) ∧
  (∀ (l1 l2 l3 l4 l5 l6 : Option Value) (x : Int32) (h : sx_H), sx_Ev S 119 74 [some (.int x), l1, l2, l3, l4, l5, l6] [] h = sx_Ev S 119 75 [some (.int x), l1, l2, l3, l4, l5, l6] [.int x] h) ∧
  (∀ (l0 l1 l2 l3 l4 l5 l6 : Option Value) (s0 : Int32) (h : sx_H), sx_Ev S 119 75 [l0, l1, l2, l3, l4, l5, l6] [.int s0] h = sx_Ev S 119 77 [l0, l1, l2, l3, l4, l5, l6] [.int (sz (98)), .int s0] h) ∧
  (∀ (l0 l1 l2 l3 l4 l5 l6 : Option Value) (s0 : Int32) (s1 : Int32) (h : sx_H), sx_Ev S 119 77 [l0, l1, l2, l3, l4, l5, l6] [.int s0, .int s1] h = if s1 = s0 then sx_Ev S 119 80 [l0, l1, l2, l3, l4, l5, l6] [] h else sx_Ev S 119 118 [l0, l1, l2, l3, l4, l5, l6] [] h) ∧
  (∀ (l0 l1 l2 l3 l4 l6 : Option Value) (x : Int32) (h : sx_H), sx_Ev S 119 80 [l0, l1, l2, l3, l4, some (.int x), l6] [] h = sx_Ev S 119 82 [l0, l1, l2, l3, l4, some (.int x), l6] [.int x] h) ∧
  (∀ (l0 l1 l2 l3 l4 l6 : Option Value) (s0 : Int32) (x : Int32) (h : sx_H), sx_Ev S 119 82 [l0, l1, l2, l3, l4, some (.int x), l6] [.int s0] h = sx_Ev S 119 84 [l0, l1, l2, l3, l4, some (.int x), l6] [.int x, .int s0] h) ∧
  (∀ (l0 l1 l2 l3 l4 l5 l6 : Option Value) (s0 : Int32) (s1 : Int32) (h : sx_H), sx_Ev S 119 84 [l0, l1, l2, l3, l4, l5, l6] [.int s0, .int s1] h = sx_Ev S 119 85 [l0, l1, l2, l3, l4, l5, l6] [.int (s1 * s0)] h) ∧
  (∀ (l0 l1 l2 l3 l4 l5 l6 : Option Value) (s0 : Int32) (h : sx_H), sx_Ev S 119 85 [l0, l1, l2, l3, l4, l5, l6] [.int s0] h = sx_Ev S 119 86 [l0, l1, l2, l3, l4, l5, l6] [.int (sz (1)), .int s0] h) ∧
  (∀ (l0 l1 l2 l3 l4 l5 l6 : Option Value) (s0 : Int32) (s1 : Int32) (h : sx_H), sx_Ev S 119 86 [l0, l1, l2, l3, l4, l5, l6] [.int s0, .int s1] h = if s1 = s0 then sx_Ev S 119 89 [l0, l1, l2, l3, l4, l5, l6] [] h else sx_Ev S 119 118 [l0, l1, l2, l3, l4, l5, l6] [] h) ∧
  (∀ (l0 l1 l2 l3 l4 l5 : Option Value) (x : Int32) (h : sx_H), sx_Ev S 119 89 [l0, l1, l2, l3, l4, l5, some (.int x)] [] h = sx_Ev S 119 91 [l0, l1, l2, l3, l4, l5, some (.int x)] [.int x] h) ∧
  (∀ (l0 l1 l2 l3 l4 l5 l6 : Option Value) (s0 : Int32) (h : sx_H), sx_Ev S 119 91 [l0, l1, l2, l3, l4, l5, l6] [.int s0] h = sx_Ev S 119 92 [l0, l1, l2, l3, l4, l5, l6] [.int (sz (1)), .int s0] h) ∧
  (∀ (l0 l1 l2 l3 l4 l5 l6 : Option Value) (s0 : Int32) (s1 : Int32) (h : sx_H), sx_Ev S 119 92 [l0, l1, l2, l3, l4, l5, l6] [.int s0, .int s1] h = if s1 = s0 then sx_Ev S 119 95 [l0, l1, l2, l3, l4, l5, l6] [] h else sx_Ev S 119 102 [l0, l1, l2, l3, l4, l5, l6] [] h) ∧
  (∀ (l0 l2 l3 l4 l5 l6 : Option Value) (x : Int32) (h : sx_H), sx_Ev S 119 95 [l0, some (.int x), l2, l3, l4, l5, l6] [] h = sx_Ev S 119 96 [l0, some (.int x), l2, l3, l4, l5, l6] [.int x] h) ∧
  (∀ (l0 l1 l2 l3 l4 l5 l6 : Option Value) (s0 : Int32) (h : sx_H), sx_Ev S 119 96 [l0, l1, l2, l3, l4, l5, l6] [.int s0] h = sx_Ev S 119 97 [l0, l1, l2, l3, l4, l5, l6] [.int (sz (2)), .int s0] h) ∧
  (∀ (l0 l1 l2 l3 l4 l5 l6 : Option Value) (s0 : Int32) (s1 : Int32) (h : sx_H), sx_Ev S 119 97 [l0, l1, l2, l3, l4, l5, l6] [.int s0, .int s1] h = if s0 = 0 then none else sx_Ev S 119 98 [l0, l1, l2, l3, l4, l5, l6] [.int (s1 - s1 / s0 * s0)] h) := ⟨fun _ _ _ _ _ _ _ _ => sx_e_nx rfl rfl,
  fun _ _ _ _ _ _ _ _ _ => sx_e_nx rfl rfl,
  fun _ _ _ _ _ _ _ _ _ _ => sx_e_nx rfl rfl,
  fun _ _ _ _ _ _ _ _ _ => sx_e_nx rfl rfl,
  fun _ _ _ _ _ _ _ _ => sx_e_nx rfl rfl,
  fun _ _ _ _ _ _ _ _ _ => sx_e_nx rfl rfl,
  fun _ _ _ _ _ _ _ _ _ _ => sx_e_nx rfl rfl,
  fun _ _ _ _ _ _ _ _ _ => sx_e_nx rfl rfl,
  fun _ _ _ _ _ _ _ _ => sx_e_nx rfl rfl,
  fun _ _ _ _ _ _ _ _ _ => sx_e_nx rfl rfl,
  fun _ _ _ _ _ _ _ _ _ _ => sx_e_nx rfl rfl,
  fun _ _ _ _ _ _ _ _ _ => sx_e_nx rfl rfl,
  fun _ _ _ _ _ _ _ _ _ _ => sx_e_nx rfl rfl,
  fun _ _ _ _ _ _ _ _ _ _ _ => sx_e_nx rfl rfl,
  fun _ _ _ _ _ _ _ _ _ _ => sx_e_nx rfl rfl,
  fun _ _ _ _ _ _ _ _ _ => sx_e_nx rfl rfl,
  fun _ _ _ _ _ _ _ _ _ _ => sx_e_ine rfl (by decide) rfl,
  fun _ _ _ _ _ _ _ _ => sx_e_nx rfl rfl,
  fun _ _ _ _ _ _ _ _ _ hv => sx_e_ret rfl rfl hv,
  fun _ _ _ _ _ _ _ _ => sx_e_nx rfl rfl,
  fun _ _ _ _ _ _ _ _ _ => sx_e_bi rfl (by decide +kernel) rfl,
  fun _ _ _ _ _ _ _ _ _ _ => sx_e_ine rfl (by decide) rfl,
  fun _ _ _ _ _ _ _ _ => sx_e_nx rfl rfl,
  fun _ _ _ _ _ _ _ _ _ => sx_e_nx rfl rfl,
  fun _ _ _ _ _ _ _ _ _ _ => sx_e_nx rfl rfl,
  fun _ _ _ _ _ _ _ _ _ => sx_e_nx rfl rfl,
  fun _ _ _ _ _ _ _ _ _ _ => sx_e_ine rfl (by decide) rfl,
  fun _ _ _ _ _ _ _ _ => sx_e_nx rfl rfl,
  fun _ _ _ _ _ _ _ _ _ => sx_e_nx rfl rfl,
  fun _ _ _ _ _ _ _ _ _ _ => sx_e_ine rfl (by decide) rfl,
  fun _ _ _ _ _ _ _ _ => sx_e_nx rfl rfl,
  fun _ _ _ _ _ _ _ _ _ => sx_e_nx rfl rfl,
  fun _ _ _ _ _ _ _ _ _ _ => sx_e_rem rfl rfl,
  fun _ _ _ _ _ _ _ _ _ => sx_e_nx rfl rfl,
  fun _ _ _ _ _ _ _ _ _ _ => sx_e_ieq rfl (by decide) rfl,
  fun _ _ _ _ _ _ _ _ => sx_e_nx rfl rfl,
  fun _ _ _ _ _ _ _ _ _ => sx_e_nx rfl rfl,
  fun _ _ _ _ _ _ _ _ _ _ => sx_e_ine rfl (by decide) rfl,
  fun _ _ _ _ _ _ _ _ => sx_e_nx rfl rfl,
  fun _ _ _ _ _ _ _ _ _ => sx_e_nx rfl rfl,
  fun _ _ _ _ _ _ _ _ _ _ => sx_e_rem rfl rfl,
  fun _ _ _ _ _ _ _ _ _ => sx_e_ne rfl (by decide) rfl,
  fun _ _ _ _ _ _ _ _ => sx_e_nx rfl rfl,
  fun _ _ _ _ _ _ _ _ _ => sx_e_goto rfl (by decide),
  fun _ _ _ _ _ _ _ _ => sx_e_nx rfl rfl,
  fun _ _ _ _ _ _ _ _ _ hv => sx_e_ret rfl rfl hv,
  fun _ _ _ _ _ _ _ _ => sx_e_nx rfl rfl,
  fun _ _ _ _ _ _ _ _ _ => sx_e_bi rfl (by decide +kernel) rfl,
  fun _ _ _ _ _ _ _ _ _ _ => sx_e_ine rfl (by decide) rfl,
  fun _ _ _ _ _ _ _ _ => sx_e_nx rfl rfl,
  fun _ _ _ _ _ _ _ _ _ => sx_e_nx rfl rfl,
  fun _ _ _ _ _ _ _ _ _ _ => sx_e_nx rfl rfl,
  fun _ _ _ _ _ _ _ _ _ => sx_e_nx rfl rfl,
  fun _ _ _ _ _ _ _ _ _ _ => sx_e_ine rfl (by decide) rfl,
  fun _ _ _ _ _ _ _ _ => sx_e_nx rfl rfl,
  fun _ _ _ _ _ _ _ _ _ => sx_e_nx rfl rfl,
  fun _ _ _ _ _ _ _ _ _ _ => sx_e_ine rfl (by decide) rfl,
  fun _ _ _ _ _ _ _ _ => sx_e_nx rfl rfl,
  fun _ _ _ _ _ _ _ _ _ => sx_e_nx rfl rfl,
  fun _ _ _ _ _ _ _ _ _ _ => sx_e_rem rfl rfl⟩
theorem q119_1 (S : List Int32) : (∀ (l0 l1 l2 l3 l4 l5 l6 : Option Value) (s0 : Int32) (h : sx_H), sx_Ev S 119 98 [l0, l1, l2, l3, l4, l5, l6] [.int s0] h = sx_Ev S 119 99 [l0, l1, l2, l3, l4, l5, l6] [.int (sz (1)), .int s0] h) ∧
  (∀ (l0 l1 l2 l3 l4 l5 l6 : Option Value) (s0 : Int32) (s1 : Int32) (h : sx_H), sx_Ev S 119 99 [l0, l1, l2, l3, l4, l5, l6] [.int s0, .int s1] h = if s1 = s0 then sx_Ev S 119 114 [l0, l1, l2, l3, l4, l5, l6] [] h else sx_Ev S 119 102 [l0, l1, l2, l3, l4, l5, l6] [] h) ∧
  (∀ (l0 l1 l2 l3 l4 l5 : Option Value) (x : Int32) (h : sx_H), sx_Ev S 119 102 [l0, l1, l2, l3, l4, l5, some (.int x)] [] h = sx_Ev S 119 104 [l0, l1, l2, l3, l4, l5, some (.int x)] [.int x] h) ∧
  (∀ (l0 l1 l2 l3 l4 l5 l6 : Option Value) (s0 : Int32) (h : sx_H), sx_Ev S 119 104 [l0, l1, l2, l3, l4, l5, l6] [.int s0] h = sx_Ev S 119 105 [l0, l1, l2, l3, l4, l5, l6] [.int (sz (-1)), .int s0] h) ∧
  (∀ (l0 l1 l2 l3 l4 l5 l6 : Option Value) (s0 : Int32) (s1 : Int32) (h : sx_H), sx_Ev S 119 105 [l0, l1, l2, l3, l4, l5, l6] [.int s0, .int s1] h = if s1 = s0 then sx_Ev S 119 108 [l0, l1, l2, l3, l4, l5, l6] [] h else sx_Ev S 119 118 [l0, l1, l2, l3, l4, l5, l6] [] h) ∧
  (∀ (l0 l2 l3 l4 l5 l6 : Option Value) (x : Int32) (h : sx_H), sx_Ev S 119 108 [l0, some (.int x), l2, l3, l4, l5, l6] [] h = sx_Ev S 119 109 [l0, some (.int x), l2, l3, l4, l5, l6] [.int x] h) ∧
  (∀ (l0 l1 l2 l3 l4 l5 l6 : Option Value) (s0 : Int32) (h : sx_H), sx_Ev S 119 109 [l0, l1, l2, l3, l4, l5, l6] [.int s0] h = sx_Ev S 119 110 [l0, l1, l2, l3, l4, l5, l6] [.int (sz (2)), .int s0] h) ∧
  (∀ (l0 l1 l2 l3 l4 l5 l6 : Option Value) (s0 : Int32) (s1 : Int32) (h : sx_H), sx_Ev S 119 110 [l0, l1, l2, l3, l4, l5, l6] [.int s0, .int s1] h = if s0 = 0 then none else sx_Ev S 119 111 [l0, l1, l2, l3, l4, l5, l6] [.int (s1 - s1 / s0 * s0)] h) ∧
  (∀ (l0 l1 l2 l3 l4 l5 l6 : Option Value) (s0 : Int32) (h : sx_H), sx_Ev S 119 111 [l0, l1, l2, l3, l4, l5, l6] [.int s0] h = if s0 = 0 then sx_Ev S 119 114 [l0, l1, l2, l3, l4, l5, l6] [] h else sx_Ev S 119 118 [l0, l1, l2, l3, l4, l5, l6] [] h) ∧
  (∀ (l0 l1 l2 l3 l4 l5 l6 : Option Value) (h : sx_H), sx_Ev S 119 114 [l0, l1, l2, l3, l4, l5, l6] [] h = sx_Ev S 119 115 [l0, l1, l2, l3, l4, l5, l6] [.int (sz (1))] h) ∧
  (∀ (l0 l1 l2 l3 l4 l5 l6 : Option Value) (s0 : Int32) (h : sx_H), sx_Ev S 119 115 [l0, l1, l2, l3, l4, l5, l6] [.int s0] h = sx_Ev S 119 119 [l0, l1, l2, l3, l4, l5, l6] [.int s0] h) ∧
  (∀ (l0 l1 l2 l3 l4 l5 l6 : Option Value) (h : sx_H), sx_Ev S 119 118 [l0, l1, l2, l3, l4, l5, l6] [] h = sx_Ev S 119 119 [l0, l1, l2, l3, l4, l5, l6] [.int (sz (0))] h) ∧
  (∀ (l0 l1 l2 l3 l4 l5 l6 : Option Value) (s0 : Int32) (h : sx_H), narrow .boolean (.int s0) = .int s0 → sx_Ev S 119 119 [l0, l1, l2, l3, l4, l5, l6] [.int s0] h = some (.inl (some (.int s0)), h)) := ⟨fun _ _ _ _ _ _ _ _ _ => sx_e_nx rfl rfl,
  fun _ _ _ _ _ _ _ _ _ _ => sx_e_ieq rfl (by decide) rfl,
  fun _ _ _ _ _ _ _ _ => sx_e_nx rfl rfl,
  fun _ _ _ _ _ _ _ _ _ => sx_e_nx rfl rfl,
  fun _ _ _ _ _ _ _ _ _ _ => sx_e_ine rfl (by decide) rfl,
  fun _ _ _ _ _ _ _ _ => sx_e_nx rfl rfl,
  fun _ _ _ _ _ _ _ _ _ => sx_e_nx rfl rfl,
  fun _ _ _ _ _ _ _ _ _ _ => sx_e_rem rfl rfl,
  fun _ _ _ _ _ _ _ _ _ => sx_e_ne rfl (by decide) rfl,
  fun _ _ _ _ _ _ _ _ => sx_e_nx rfl rfl,
  fun _ _ _ _ _ _ _ _ _ => sx_e_goto rfl (by decide),
  fun _ _ _ _ _ _ _ _ => sx_e_nx rfl rfl,
  fun _ _ _ _ _ _ _ _ _ hv => sx_e_ret rfl rfl hv⟩
