/-! THE RULES, as the class asks them of a cloth's colours -/
theorem sz_and1 {x : Int} (h : 0 ≤ x ∧ x ≤ 1000000000) : sz x &&& sz 1 = sz (x % 2) := by
  obtain ⟨n, rfl⟩ : ∃ n : Nat, x = n := ⟨x.toNat, by omega⟩
  have := pk_andN (n := n) (by omega) (m := 1) 1 (by decide)
  rw [show sz ((n : Nat) : Int) = nI n from (sz_nat n).symm, show sz 1 = (1 : Int32) from rfl, this]
  show Int32.ofNat (n % 2) = _
  rw [sz_nat]
  rfl
theorem i16 {ru : Int} (h : 0 ≤ ru ∧ ru ≤ 15) : ru = 0 ∨ ru = 1 ∨ ru = 2 ∨ ru = 3 ∨ ru = 4 ∨ ru = 5 ∨ ru = 6 ∨ ru = 7 ∨ ru = 8 ∨ ru = 9 ∨ ru = 10 ∨ ru = 11 ∨ ru = 12 ∨ ru = 13 ∨ ru = 14 ∨ ru = 15 := by omega
theorem sz_bit2 {ru : Int} (h : 0 ≤ ru ∧ ru ≤ 15) : sz ru &&& sz 2 = sz (2 * (ru / 2 % 2)) := by
  rcases i16 h with e | e | e | e | e | e | e | e | e | e | e | e | e | e | e | e <;> subst e <;> decide
theorem sz_bit4 {ru : Int} (h : 0 ≤ ru ∧ ru ≤ 15) : sz ru &&& sz 4 = sz (4 * (ru / 4 % 2)) := by
  rcases i16 h with e | e | e | e | e | e | e | e | e | e | e | e | e | e | e | e <;> subst e <;> decide
theorem sz_bit8 {ru : Int} (h : 0 ≤ ru ∧ ru ≤ 15) : sz ru &&& sz 8 = sz (8 * (ru / 8 % 2)) := by
  rcases i16 h with e | e | e | e | e | e | e | e | e | e | e | e | e | e | e | e <;> subst e <;> decide
theorem sz_bit3 {ru : Int} (h : 0 ≤ ru ∧ ru ≤ 15) : sz ru &&& sz 3 = sz (ru % 4) := by
  rcases i16 h with e | e | e | e | e | e | e | e | e | e | e | e | e | e | e | e <;> subst e <;> decide
def Clo.nb (C : Clo) (r x d e : Int) : Bool := if d = 0 ∨ e = 0 then decide (d ≠ e) else if C.st = 112 then decide (d = if x % 2 = 1 then 1 else -1) else if C.st = 98 then decide (e = if r % 2 = 1 then 1 else -1) else false
def Clo.sl (C : Clo) (b : Bool) (d e : Int) : Bool := if C.st = 112 then b && decide (e ≠ 0) else if C.st = 98 then b && decide (d ≠ 0) else decide (d ≠ 0) && decide (e ≠ 0)
def Clo.three (C : Clo) (r x : Int) : Bool := decide (C.g r x ≠ -1 ∧ C.g r x = C.g r (x + 1) ∧ C.g r x = C.g r (x + 2))
def Clo.frame (C : Clo) (r x : Int) : Bool := decide (¬ ((0 < r ∧ r < C.nr - 1) ∧ (0 < x ∧ x < C.nc - 1)) ∧ C.g 0 0 ≠ -1 ∧ C.g r x ≠ -1 ∧ C.g r x ≠ C.g 0 0)
def Clo.two (C : Clo) (ru r x d e : Int) : Bool := decide (C.g r x ≠ -1 ∧ C.g r x = C.g (r + d) (x + e)) && ((decide (ru % 2 = 1) && C.nb r x d e) || (decide (ru / 2 % 2 = 1) && C.sl (C.nb r x d e) d e))
theorem Clo.g_bd (C : Clo) (hC : C.ok) (r x : Int) : -1 ≤ C.g r x ∧ C.g r x ≤ 2 := by
  unfold Clo.g kcol
  split
  · split <;> omega
  · omega
section SXD2
variable {S : List Int32} {h : sx_H} {K c p q : Nat} {C : Clo}
theorem m_nb (hC : sx_CV h K c p q C) {r x d e : Int} (hr : 0 ≤ r ∧ r ≤ 1000) (hx : 0 ≤ x ∧ x ≤ 1000) (hd : -1 ≤ d ∧ d ≤ 1) (he : -1 ≤ e ∧ e ≤ 1) : sx_Cl S 44 [.ref c, .int (sz r), .int (sz x), .int (sz d), .int (sz e)] h = some (.inl (some (.int (sz (bz (C.nb r x d e))))), h) := by
  obtain ⟨f0, f1, f2, f3, f5, f6, f9, f10, fk, i5, i6⟩ := hC.f (S := S)
  obtain ⟨⟨a1, a2⟩, ⟨a3, a4⟩, a5, a6, a7, a8⟩ := hC.1
  have b2 := mulN_bd a4 a2
  have n0 := nb0
  have n1 := nb1
  simp (disch := omega) only [c44_q, q44, f1, sz_and1, Option.bind_some, sz_lt0, sz_lt, sz_0lt, sz_mul, sz_add, sz_sub, sz_eq0, sz_eq, sz_nat, List.length_map, nb0, nb1, bz_eq0, ↓reduceIte, Int.reduceEq, Int.reduceLT, Int.reduceAdd, Int.reduceSub, Int.reduceMul, Int.reduceNeg]
  unfold Clo.nb
  repeat' split
  all_goals first
    | (exfalso; omega)
    | (rw [decide_eq_true (by omega)]; rfl)
    | (rw [decide_eq_false (by omega)]; rfl)
    | rfl
theorem m_sl (hC : sx_CV h K c p q C) {d e : Int} (b : Bool) (hd : -1 ≤ d ∧ d ≤ 1) (he : -1 ≤ e ∧ e ≤ 1) : sx_Cl S 45 [.ref c, .int (sz (bz b)), .int (sz d), .int (sz e)] h = some (.inl (some (.int (sz (bz (C.sl b d e))))), h) := by
  obtain ⟨f0, f1, f2, f3, f5, f6, f9, f10, fk, i5, i6⟩ := hC.f (S := S)
  obtain ⟨⟨a1, a2⟩, ⟨a3, a4⟩, a5, a6, a7, a8⟩ := hC.1
  have b2 := mulN_bd a4 a2
  have n0 := nb0
  have n1 := nb1
  simp (disch := omega) only [c45_q, q45, f1, Option.bind_some, sz_lt0, sz_lt, sz_0lt, sz_mul, sz_add, sz_sub, sz_eq0, sz_eq, sz_nat, List.length_map, nb0, nb1, bz_eq0, ↓reduceIte, Int.reduceEq, Int.reduceLT, Int.reduceAdd, Int.reduceSub, Int.reduceMul, Int.reduceNeg]
  unfold Clo.sl
  cases b
  all_goals
    repeat' split
    all_goals first
      | contradiction
      | (exfalso; omega)
      | simp [*, bz]
theorem m_three (hC : sx_CV h K c p q C) {r x : Int} (hr : -900 ≤ r ∧ r ≤ 900) (hx : -900 ≤ x ∧ x ≤ 900) : sx_Cl S 42 [.ref c, .int (sz r), .int (sz x)] h = some (.inl (some (.int (sz (bz (C.three r x))))), h) := by
  obtain ⟨f0, f1, f2, f3, f5, f6, f9, f10, fk, i5, i6⟩ := hC.f (S := S)
  obtain ⟨⟨a1, a2⟩, ⟨a3, a4⟩, a5, a6, a7, a8⟩ := hC.1
  have b2 := mulN_bd a4 a2
  have n0 := nb0
  have n1 := nb1
  have g0 := C.g_bd hC.1 r x
  have g1 := C.g_bd hC.1 r (x + 1)
  have g2 := C.g_bd hC.1 r (x + 2)
  simp (disch := omega) only [c42_q, q42, m_colourAt hC, Option.bind_some, sz_lt0, sz_lt, sz_0lt, sz_mul, sz_add, sz_sub, sz_eq0, sz_eq, sz_nat, List.length_map, nb0, nb1, bz_eq0, ↓reduceIte, Int.reduceEq, Int.reduceLT, Int.reduceAdd, Int.reduceSub, Int.reduceMul, Int.reduceNeg]
  unfold Clo.three
  repeat' split
  all_goals first
    | (exfalso; omega)
    | (rw [decide_eq_true (by omega)]; rfl)
    | (rw [decide_eq_false (by omega)]; rfl)
theorem m_frame (hC : sx_CV h K c p q C) {r x : Int} (hr : 0 ≤ r ∧ r < C.nr) (hx : 0 ≤ x ∧ x < C.nc) : sx_Cl S 43 [.ref c, .int (sz r), .int (sz x)] h = some (.inl (some (.int (sz (bz (C.frame r x))))), h) := by
  obtain ⟨f0, f1, f2, f3, f5, f6, f9, f10, fk, i5, i6⟩ := hC.f (S := S)
  obtain ⟨⟨a1, a2⟩, ⟨a3, a4⟩, a5, a6, a7, a8⟩ := hC.1
  have b2 := mulN_bd a4 a2
  have n0 := nb0
  have n1 := nb1
  have g0 := C.g_bd hC.1 r x
  have g1 := C.g_bd hC.1 0 0
  simp (disch := omega) only [c43_q, q43, m_colourAt hC, f2, f3, Option.bind_some, sz_lt0, sz_lt, sz_0lt, sz_mul, sz_add, sz_sub, sz_eq0, sz_eq, sz_nat, List.length_map, nb0, nb1, bz_eq0, ↓reduceIte, Int.reduceEq, Int.reduceLT, Int.reduceAdd, Int.reduceSub, Int.reduceMul, Int.reduceNeg]
  unfold Clo.frame
  repeat' split
  all_goals first
    | (exfalso; omega)
    | (rw [decide_eq_true (by omega)]; rfl)
    | (rw [decide_eq_false (by omega)]; rfl)
end SXD2
