/-! A CLOTH, and what is read of it -/
/-- stitch, columns, rows, kinds of the cells, rules -/
def Clo : Type := Int × Nat × Nat × List Int × Int
def Clo.st (C : Clo) : Int := C.1
def Clo.nc (C : Clo) : Nat := C.2.1
def Clo.nr (C : Clo) : Nat := C.2.2.1
def Clo.ks (C : Clo) : List Int := C.2.2.2.1
def Clo.ru (C : Clo) : Int := C.2.2.2.2
def Clo.ok (C : Clo) : Prop := (2 ≤ C.nc ∧ C.nc ≤ 12) ∧ (1 ≤ C.nr ∧ C.nr ≤ 12) ∧ C.ks.length = C.nr * C.nc ∧ (∀ k ∈ C.ks, -1 ≤ k ∧ k < 4) ∧ (0 ≤ C.ru ∧ C.ru ≤ 15) ∧ (C.st = 108 ∨ C.st = 112 ∨ C.st = 98)
def Clo.k (C : Clo) (i : Int) : Int := if 0 ≤ i ∧ i < C.ks.length then C.ks.getD i.toNat 0 else -1
def Clo.g (C : Clo) (r c : Int) : Int := if (0 ≤ r ∧ r < C.nr) ∧ (0 ≤ c ∧ c < C.nc) then kcol (C.ks.getD (r * C.nc + c).toNat 0) else -1
def sx_CV (h : sx_H) (K c p q : Nat) (C : Clo) : Prop := C.ok ∧ (∃ v4 v7 v8, sx_get h c = some (.inr (.inr (0, [.ref K, .int (sz C.st), .int (sz C.nc), .int (sz C.nr), v4, .ref p, .ref q, v7, v8, .int (sz 100), .int (sz C.ru)])))) ∧
  sx_get h p = some (.inl (C.ks.map sz)) ∧ sx_get h q = some (.inl ((C.ks.map kcol).map sz))
theorem kcol_getD (ks : List Int) (i : Nat) : (ks.map kcol).getD i 0 = kcol (ks.getD i 0) := by
  rw [List.getD_eq_getElem?_getD, List.getElem?_map, List.getD_eq_getElem?_getD]
  cases ks[i]? <;> rfl
theorem idx_in {r c : Int} {nc nr : Nat} (h : (0 ≤ r ∧ r < nr) ∧ (0 ≤ c ∧ c < nc)) : 0 ≤ r * nc + c ∧ r * nc + c < ((nr * nc : Nat) : Int) := by
  obtain ⟨⟨h1, h2⟩, h3, h4⟩ := h
  have a1 : 0 ≤ r * (nc : Int) := Int.mul_nonneg h1 (by omega)
  have a2 : (r + 1) * (nc : Int) ≤ (nr : Int) * nc := Int.mul_le_mul_of_nonneg_right (by omega) (by omega)
  rw [Int.add_mul] at a2
  rw [Int.natCast_mul]
  omega
theorem mul_bd {r : Int} {nc : Nat} (hr : -1000 ≤ r ∧ r ≤ 1000) (hn : nc ≤ 12) : -12000 ≤ r * nc ∧ r * nc ≤ 12000 := by
  rcases (show nc = 0 ∨ nc = 1 ∨ nc = 2 ∨ nc = 3 ∨ nc = 4 ∨ nc = 5 ∨ nc = 6 ∨ nc = 7 ∨ nc = 8 ∨ nc = 9 ∨ nc = 10 ∨ nc = 11 ∨ nc = 12 by omega) with h | h | h | h | h | h | h | h | h | h | h | h | h <;> subst h <;> omega
theorem mulN_bd {a b : Nat} (ha : a ≤ 12) (hb : b ≤ 12) : a * b ≤ 144 := Nat.le_trans (Nat.mul_le_mul ha hb) (by decide)
section SXC
variable {S : List Int32} {h : sx_H} {K c p q : Nat} {C : Clo}
theorem sx_CV.f (hC : sx_CV h K c p q C) : sx_fld h c 0 0 = some (.ref K) ∧ sx_fld h c 0 1 = some (.int (sz C.st)) ∧ sx_fld h c 0 2 = some (.int (sz C.nc)) ∧ sx_fld h c 0 3 = some (.int (sz C.nr)) ∧ sx_fld h c 0 5 = some (.ref p) ∧ sx_fld h c 0 6 = some (.ref q) ∧ sx_fld h c 0 9 = some (.int (sz 100)) ∧ sx_fld h c 0 10 = some (.int (sz C.ru)) ∧ sx_klass h c = some 0 ∧
    sx_ints S h p = some (C.ks.map sz) ∧ sx_ints S h q = some ((C.ks.map kcol).map sz) := by
  obtain ⟨-, ⟨v4, v7, v8, h1⟩, h2, h3⟩ := hC
  exact ⟨sx_fld_of h1 rfl, sx_fld_of h1 rfl, sx_fld_of h1 rfl, sx_fld_of h1 rfl, sx_fld_of h1 rfl, sx_fld_of h1 rfl, sx_fld_of h1 rfl, sx_fld_of h1 rfl, sx_klass_of h1, sx_ints_of h2, sx_ints_of h3⟩
theorem m_colourAt (hC : sx_CV h K c p q C) {r x : Int} (hr : -1000 ≤ r ∧ r ≤ 1000) (hx : -1000 ≤ x ∧ x ≤ 1000) : sx_Cl S 0 [.ref c, .int (sz r), .int (sz x)] h = some (.inl (some (.int (sz (C.g r x)))), h) := by
  obtain ⟨f0, f1, f2, f3, f5, f6, f9, f10, fk, i5, i6⟩ := hC.f (S := S)
  obtain ⟨⟨a1, a2⟩, ⟨a3, a4⟩, a5, a6, a7, a8⟩ := hC.1
  have b2 := mulN_bd a4 a2
  have n0 := nb0
  have n1 := nb1
  have b1 := mul_bd hr a2
  have b3 : (C.ks.map kcol).length = C.nr * C.nc := by rw [List.length_map]; exact a5
  simp (disch := omega) only [c0_q, q0, f0, f1, f2, f3, f5, f6, f9, f10, i5, i6, a5, Option.bind_some, sz_lt0, sz_lt, sz_0lt, sz_mul, sz_add, sz_sub, sz_eq0, sz_eq, sz_nat, List.length_map, nb0, nb1, bz_eq0, ↓reduceIte, Int.reduceEq, Int.reduceLT, Int.reduceAdd, Int.reduceSub, Int.reduceMul, Int.reduceNeg]
  unfold Clo.g
  by_cases hin : (0 ≤ r ∧ r < C.nr) ∧ (0 ≤ x ∧ x < C.nc)
  · have hi := idx_in hin
    have hrd : sx_rd S h q (sz (r * C.nc + x)) = some (sz ((C.ks.map kcol).getD (r * C.nc + x).toNat 0)) := sx_rd_of hC.2.2.2 (by rw [b3]; exact hi) (by omega)
    rw [if_pos hin, ← kcol_getD]
    simp (disch := omega) only [if_neg, if_pos, hrd, Option.bind_some, q0]
  · rw [if_neg hin]
    repeat' split
    all_goals first | rfl | omega
theorem m_size (hC : sx_CV h K c p q C) : sx_Cl S 8 [.ref c] h = some (.inl (some (.int (sz C.ks.length))), h) := by
  obtain ⟨f0, f1, f2, f3, f5, f6, f9, f10, fk, i5, i6⟩ := hC.f (S := S)
  simp (disch := omega) only [c8_q, q8, f5, i5, Option.bind_some, sz_lt0, sz_lt, sz_0lt, sz_mul, sz_add, sz_sub, sz_eq0, sz_eq, sz_nat, List.length_map, nb0, nb1, bz_eq0, ↓reduceIte, Int.reduceEq, Int.reduceLT, Int.reduceAdd, Int.reduceSub, Int.reduceMul, Int.reduceNeg]
theorem m_kindIn (hC : sx_CV h K c p q C) {i : Int} (hi : -100000 ≤ i ∧ i ≤ 100000) : sx_Cl S 27 [.ref c, .int (sz i)] h = some (.inl (some (.int (sz (C.k i)))), h) := by
  obtain ⟨f0, f1, f2, f3, f5, f6, f9, f10, fk, i5, i6⟩ := hC.f (S := S)
  obtain ⟨⟨a1, a2⟩, ⟨a3, a4⟩, a5, a6, a7, a8⟩ := hC.1
  have b2 := mulN_bd a4 a2
  have n0 := nb0
  have n1 := nb1
  simp (disch := omega) only [c27_q, q27, f5, i5, Option.bind_some, sz_lt0, sz_lt, sz_0lt, sz_mul, sz_add, sz_sub, sz_eq0, sz_eq, sz_nat, List.length_map, nb0, nb1, bz_eq0, ↓reduceIte, Int.reduceEq, Int.reduceLT, Int.reduceAdd, Int.reduceSub, Int.reduceMul, Int.reduceNeg]
  unfold Clo.k
  by_cases hin : 0 ≤ i ∧ i < C.ks.length
  · have hrd := sx_rd_of (S := S) hC.2.2.1 hin (by omega)
    rw [if_pos hin]
    simp (disch := omega) only [if_neg, if_pos, hrd, Option.bind_some, q27]
  · rw [if_neg hin]
    repeat' split
    all_goals first | rfl | omega
theorem m_colourIn (hC : sx_CV h K c p q C) {i : Int} (hi : -100000 ≤ i ∧ i ≤ 100000) : sx_Cl S 9 [.ref c, .int (sz i)] h = some (.inl (some (.int (sz (if 0 ≤ i ∧ i < C.ks.length then kcol (C.ks.getD i.toNat 0) else -1)))), h) := by
  obtain ⟨f0, f1, f2, f3, f5, f6, f9, f10, fk, i5, i6⟩ := hC.f (S := S)
  obtain ⟨⟨a1, a2⟩, ⟨a3, a4⟩, a5, a6, a7, a8⟩ := hC.1
  have b2 := mulN_bd a4 a2
  have n0 := nb0
  have n1 := nb1
  simp (disch := omega) only [c9_q, q9, f6, i6, Option.bind_some, sz_lt0, sz_lt, sz_0lt, sz_mul, sz_add, sz_sub, sz_eq0, sz_eq, sz_nat, List.length_map, nb0, nb1, bz_eq0, ↓reduceIte, Int.reduceEq, Int.reduceLT, Int.reduceAdd, Int.reduceSub, Int.reduceMul, Int.reduceNeg]
  by_cases hin : 0 ≤ i ∧ i < C.ks.length
  · have hrd := sx_rd_of (S := S) hC.2.2.2 (x := i) (by rw [List.length_map]; exact hin) (by rw [List.length_map]; omega)
    rw [if_pos hin, ← kcol_getD]
    simp (disch := omega) only [if_neg, if_pos, hrd, Option.bind_some, q9]
  · rw [if_neg hin]
    repeat' split
    all_goals first | rfl | omega
theorem m_hasPlace (hC : sx_CV h K c p q C) {r x : Int} (hr : -100000 ≤ r ∧ r ≤ 100000) (hx : -100000 ≤ x ∧ x ≤ 100000) : sx_Cl S 25 [.ref c, .int (sz r), .int (sz x)] h = some (.inl (some (.int (sz (bz (decide ((0 ≤ r ∧ r < C.nr) ∧ (0 ≤ x ∧ x < C.nc))))))), h) := by
  obtain ⟨f0, f1, f2, f3, f5, f6, f9, f10, fk, i5, i6⟩ := hC.f (S := S)
  obtain ⟨⟨a1, a2⟩, ⟨a3, a4⟩, a5, a6, a7, a8⟩ := hC.1
  have b2 := mulN_bd a4 a2
  have n0 := nb0
  have n1 := nb1
  simp (disch := omega) only [c25_q, q25, f2, f3, Option.bind_some, sz_lt0, sz_lt, sz_0lt, sz_mul, sz_add, sz_sub, sz_eq0, sz_eq, sz_nat, List.length_map, nb0, nb1, bz_eq0, ↓reduceIte, Int.reduceEq, Int.reduceLT, Int.reduceAdd, Int.reduceSub, Int.reduceMul, Int.reduceNeg]
  by_cases h1 : (0 ≤ r ∧ r < C.nr) ∧ (0 ≤ x ∧ x < C.nc)
  · rw [decide_eq_true h1]
    simp (disch := omega) only [if_pos, if_neg, q25, bz_t]
  · rw [decide_eq_false h1]
    repeat' split
    all_goals first | rfl | omega
theorem m_cellOf (hC : sx_CV h K c p q C) {r x : Int} : sx_Cl S 26 [.ref c, .int (sz r), .int (sz x)] h = some (.inl (some (.int (sz (r * C.nc + x)))), h) := by
  obtain ⟨f0, f1, f2, f3, f5, f6, f9, f10, fk, i5, i6⟩ := hC.f (S := S)
  simp (disch := omega) only [c26_q, q26, f2, Option.bind_some, sz_lt0, sz_lt, sz_0lt, sz_mul, sz_add, sz_sub, sz_eq0, sz_eq, sz_nat, List.length_map, nb0, nb1, bz_eq0, ↓reduceIte, Int.reduceEq, Int.reduceLT, Int.reduceAdd, Int.reduceSub, Int.reduceMul, Int.reduceNeg]
theorem m_countOf_l (hC : sx_CV h K c p q C) {kd : Int} (hk : -1000 ≤ kd ∧ kd ≤ 1000) : ∀ (n i : Nat) (m : Int), i + n = C.ks.length → 0 ≤ m ∧ m ≤ i → sx_Ev S 31 4 [some (.ref c), some (.int (sz kd)), some (.int (sz m)), some (.int (sz i))] [] h = some (.inl (some (.int (sz (m + nsum (fun j => if C.k j = kd then 1 else 0) i n)))), h) := by
  obtain ⟨f0, f1, f2, f3, f5, f6, f9, f10, fk, i5, i6⟩ := hC.f (S := S)
  obtain ⟨⟨a1, a2⟩, ⟨a3, a4⟩, a5, a6, a7, a8⟩ := hC.1
  have b2 := mulN_bd a4 a2
  have n0 := nb0
  have n1 := nb1
  intro n
  induction n with
  | zero =>
    intro i m hi hm
    rw [h31_4]
    simp (disch := omega) only [q31, m_size hC, fk, Option.bind_some, sz_lt0, sz_lt, sz_0lt, sz_mul, sz_add, sz_sub, sz_eq0, sz_eq, sz_nat, List.length_map, nb0, nb1, bz_eq0, ↓reduceIte, Int.reduceEq, Int.reduceLT, Int.reduceAdd, Int.reduceSub, Int.reduceMul, Int.reduceNeg]
    rw [if_neg (by omega)]
    simp [nsum]
  | succ n ih =>
    intro i m hi hm
    have hkb : -1 ≤ C.k i ∧ C.k i ≤ 4 := by
      unfold Clo.k
      split
      · rename_i hin
        have hlt : (i : Int).toNat < C.ks.length := by omega
        have := a6 (C.ks.getD (i : Int).toNat 0) (by rw [List.getD_eq_getElem?_getD, List.getElem?_eq_getElem hlt]; exact List.getElem_mem hlt)
        omega
      · omega
    rw [h31_4]
    simp (disch := omega) only [q31, m_size hC, m_kindIn hC, fk, Option.bind_some, sz_lt0, sz_lt, sz_0lt, sz_mul, sz_add, sz_sub, sz_eq0, sz_eq, sz_nat, List.length_map, nb0, nb1, bz_eq0, ↓reduceIte, Int.reduceEq, Int.reduceLT, Int.reduceAdd, Int.reduceSub, Int.reduceMul, Int.reduceNeg]
    rw [if_pos (by omega)]
    show _ = some (Sum.inl (some (Value.int (sz (m + ((if C.k i = kd then 1 else 0) + nsum (fun j => if C.k j = kd then 1 else 0) (i + 1) n))))), h)
    by_cases e : C.k i = kd
    · rw [if_pos e, if_pos e]
      have := ih (i + 1) (m + 1) (by omega) (by omega)
      rw [show ((i + 1 : Nat) : Int) = (i : Int) + 1 by omega] at this
      rw [this, Int.add_assoc]
    · rw [if_neg e, if_neg e]
      have := ih (i + 1) m (by omega) (by omega)
      rw [show ((i + 1 : Nat) : Int) = (i : Int) + 1 by omega] at this
      rw [this, Int.zero_add]
end SXC
