/-! THE CHART, second part: steps, guesses, shared errors, rows' widths -/
theorem rem_bd {a b : Int} (hb : 0 < b) : -b < a - a.tdiv b * b ∧ a - a.tdiv b * b < b := by
  have h1 := Int.tmod_lt_of_pos a hb
  have h2 := Int.lt_tmod_of_pos a hb
  rw [Int.tmod_def, Int.mul_comm] at h1 h2
  exact ⟨h2, h1⟩
/-- the first of the places whose number is the greatest -/
def nbest (f : Nat → Int) : Int → Int → Nat → Nat → Int
  | b, _, _, 0 => b
  | b, m, i, n + 1 => if m < f i then nbest f i (f i) (i + 1) n else nbest f b m (i + 1) n
def Clo.freq (C : Clo) (r x s : Int) : Int := nbest (fun d => C.step r x s d) (-1) 0 0 8
def Clo.cl (C : Clo) (i : Int) : Int := if 0 ≤ i ∧ i < C.ks.length then kcol (C.ks.getD i.toNat 0) else -1
def nshared (C1 C2 C3 : Clo) : Int := nsum (fun i => if C1.cl i ≠ -1 ∧ C3.cl i ≠ -1 ∧ C1.cl i = C2.cl i ∧ C1.cl i ≠ C3.cl i then 1 else 0) 0 C1.ks.length
def Clo.many (C : Clo) (k : Int) : Int := nsum (fun j => if C.k j = k then 1 else 0) 0 C.ks.length
theorem Clo.step_bd (C : Clo) (hC : C.ok) (r x s d : Int) : 0 ≤ C.step r x s d ∧ C.step r x s d ≤ 12 := by
  have := nsum_bd (f := fun o : Nat => if (o : Int) ≠ x ∧ ((o : Int) - x) - ((o : Int) - x).tdiv s * s = 0 ∧ C.g r o = d then (1 : Int) else 0) (a := 0) (b := 1) (by omega) (by omega) C.nc 0 (fun j _ _ => by split <;> omega)
  have h2 := hC.1.2
  have e : C.step r x s d = nsum (fun o : Nat => if (o : Int) ≠ x ∧ ((o : Int) - x) - ((o : Int) - x).tdiv s * s = 0 ∧ C.g r o = d then (1 : Int) else 0) 0 C.nc := rfl
  omega
theorem Clo.cl_bd (C : Clo) (i : Int) : -1 ≤ C.cl i ∧ C.cl i ≤ 2 := by
  unfold Clo.cl kcol
  split
  · split <;> omega
  · omega
section SXH2
variable {S : List Int32} {h : sx_H} {K A B c p q : Nat} {ws : List Int} {C : Clo}
theorem m_cells_l (hC : sx_CV h K c p q C) {r b : Int} (l : Bool) (hr : -900 ≤ r ∧ r ≤ 900) (hb : -900 ≤ b ∧ b ≤ 900) : ∀ (n j : Nat), j + n = C.nc →
    sx_Ev S 7 11 [some (.ref c), some (.int (sz r)), some (.int (sz b)), some (.int (sz (bz l))), some (.int (sz (C.g r b))), some (.int (sz j))] [] h = some (.inl (some (.int (sz (nfnd (fun j => decide (C.g r (if l = true then b - j else b + j) ≠ C.g r b)) C.nc j n)))), h) := by
  obtain ⟨f0, f1, f2, f3, f5, f6, f9, f10, fk, i5, i6⟩ := hC.f (S := S)
  obtain ⟨⟨a1, a2⟩, ⟨a3, a4⟩, a5, a6, a7, a8⟩ := hC.1
  have b2 := mulN_bd a4 a2
  have n0 := nb0
  have n1 := nb1
  intro n
  induction n with
  | zero =>
    intro j hj
    rw [h7_11]
    simp (disch := omega) only [q7, f2, Option.bind_some, sz_lt0, sz_lt, sz_0lt, sz_mul, sz_add, sz_sub, sz_eq0, sz_eq, sz_nat, List.length_map, nb0, nb1, bz_eq0, ↓reduceIte, Int.reduceEq, Int.reduceLT, Int.reduceAdd, Int.reduceSub, Int.reduceMul, Int.reduceNeg]
    rw [if_neg (by omega)]
    rfl
  | succ n ih =>
    intro j hj
    have hj1 : (j : Int) + 1 = ((j + 1 : Nat) : Int) := by omega
    have g0 := C.g_bd hC.1 r b
    have g1 := C.g_bd hC.1 r (b - j)
    have g2 := C.g_bd hC.1 r (b + j)
    have c1 := m_colourAt (S := S) hC (r := r) (x := b - j) (by omega) (by omega)
    have c2 := m_colourAt (S := S) hC (r := r) (x := b + j) (by omega) (by omega)
    rw [h7_11]
    cases l
    · simp (disch := omega) only [q7, f2, fk, c1, c2, hj1, Option.bind_some, sz_lt0, sz_lt, sz_0lt, sz_mul, sz_add, sz_sub, sz_eq0, sz_eq, sz_nat, List.length_map, nb0, nb1, bz_eq0, ↓reduceIte, Int.reduceEq, Int.reduceLT, Int.reduceAdd, Int.reduceSub, Int.reduceMul, Int.reduceNeg]
      rw [if_pos (by omega), nfnd]
      by_cases e : C.g r (b + j) = C.g r b
      · rw [if_pos e, if_neg (by simpa using e)]
        exact ih (j + 1) (by omega)
      · rw [if_neg e, if_pos (by simpa using e)]
    · simp (disch := omega) only [q7, f2, fk, c1, c2, hj1, Option.bind_some, sz_lt0, sz_lt, sz_0lt, sz_mul, sz_add, sz_sub, sz_eq0, sz_eq, sz_nat, List.length_map, nb0, nb1, bz_eq0, ↓reduceIte, Int.reduceEq, Int.reduceLT, Int.reduceAdd, Int.reduceSub, Int.reduceMul, Int.reduceNeg]
      rw [if_pos (by omega), if_neg (by simp), nfnd]
      by_cases e : C.g r (b - j) = C.g r b
      · rw [if_pos e, if_neg (by simpa using e)]
        exact ih (j + 1) (by omega)
      · rw [if_neg e, if_pos (by simpa using e)]
theorem m_cells (hC : sx_CV h K c p q C) {r b : Int} (l : Bool) (hr : -900 ≤ r ∧ r ≤ 900) (hb : -900 ≤ b ∧ b ≤ 900) : sx_Cl S 7 [.ref c, .int (sz r), .int (sz b), .int (sz (bz l))] h = some (.inl (some (.int (sz (C.cells r b l)))), h) := by
  obtain ⟨f0, f1, f2, f3, f5, f6, f9, f10, fk, i5, i6⟩ := hC.f (S := S)
  obtain ⟨⟨a1, a2⟩, ⟨a3, a4⟩, a5, a6, a7, a8⟩ := hC.1
  have b2 := mulN_bd a4 a2
  have n0 := nb0
  have n1 := nb1
  have c0 := m_colourAt (S := S) hC (r := r) (x := b) (by omega) (by omega)
  simp (disch := omega) only [c7_q, q7, fk, c0, Option.bind_some, sz_lt0, sz_lt, sz_0lt, sz_mul, sz_add, sz_sub, sz_eq0, sz_eq, sz_nat, List.length_map, nb0, nb1, bz_eq0, ↓reduceIte, Int.reduceEq, Int.reduceLT, Int.reduceAdd, Int.reduceSub, Int.reduceMul, Int.reduceNeg]
  exact m_cells_l hC l hr hb (C.nc - 1) 1 (by omega)
theorem m_step_l (hC : sx_CV h K c p q C) {r x s d : Int} (hr : -900 ≤ r ∧ r ≤ 900) (hx : -900 ≤ x ∧ x ≤ 900) (hs : 1 ≤ s ∧ s ≤ 100) (hd : -900 ≤ d ∧ d ≤ 900) : ∀ (n o : Nat) (t : Int), o + n = C.nc → 0 ≤ t ∧ t ≤ 1000 - n →
    sx_Ev S 11 6 [some (.ref c), some (.int (sz r)), some (.int (sz x)), some (.int (sz s)), some (.int (sz d)), some (.int (sz t)), some (.int (sz o))] [] h = some (.inl (some (.int (sz (t + nsum (fun o => if (o : Int) ≠ x ∧ ((o : Int) - x) - ((o : Int) - x).tdiv s * s = 0 ∧ C.g r o = d then 1 else 0) o n)))), h) := by
  obtain ⟨f0, f1, f2, f3, f5, f6, f9, f10, fk, i5, i6⟩ := hC.f (S := S)
  obtain ⟨⟨a1, a2⟩, ⟨a3, a4⟩, a5, a6, a7, a8⟩ := hC.1
  have b2 := mulN_bd a4 a2
  have n0 := nb0
  have n1 := nb1
  intro n
  induction n with
  | zero =>
    intro o t ho ht
    rw [h11_6]
    simp (disch := omega) only [q11, f2, Option.bind_some, sz_lt0, sz_lt, sz_0lt, sz_mul, sz_add, sz_sub, sz_eq0, sz_eq, sz_nat, List.length_map, nb0, nb1, bz_eq0, ↓reduceIte, Int.reduceEq, Int.reduceLT, Int.reduceAdd, Int.reduceSub, Int.reduceMul, Int.reduceNeg]
    rw [if_neg (by omega)]
    simp [nsum]
  | succ n ih =>
    intro o t ho ht
    have ho1 : (o : Int) + 1 = ((o + 1 : Nat) : Int) := by omega
    have g1 := C.g_bd hC.1 r o
    have hm := rem_bd (a := (o : Int) - x) (b := s) (by omega)
    have c1 := m_colourAt (S := S) hC (r := r) (x := o) (by omega) (by omega)
    rw [h11_6]
    simp (disch := omega) only [q11, f2, fk, c1, ho1, sz_tdiv, Option.bind_some, sz_lt0, sz_lt, sz_0lt, sz_mul, sz_add, sz_sub, sz_eq0, sz_eq, sz_nat, List.length_map, nb0, nb1, bz_eq0, ↓reduceIte, Int.reduceEq, Int.reduceLT, Int.reduceAdd, Int.reduceSub, Int.reduceMul, Int.reduceNeg]
    rw [if_pos (by omega), if_pos (by omega), nsum]
    by_cases e1 : (o : Int) = x
    · rw [if_pos e1, if_neg (fun q => q.1 e1), ih (o + 1) t (by omega) (by omega), Int.zero_add]
    · rw [if_neg e1, if_neg (by omega)]
      by_cases e2 : ((o : Int) - x) - ((o : Int) - x).tdiv s * s = 0
      · rw [if_pos e2]
        by_cases e3 : C.g r o = d
        · rw [if_pos e3, if_pos ⟨e1, e2, e3⟩, ih (o + 1) (t + 1) (by omega) (by omega), Int.add_assoc]
        · rw [if_neg e3, if_neg (fun q => e3 q.2.2), ih (o + 1) t (by omega) (by omega), Int.zero_add]
      · rw [if_neg e2, if_neg (fun q => e2 q.2.1), ih (o + 1) t (by omega) (by omega), Int.zero_add]
theorem m_step (hC : sx_CV h K c p q C) {r x s d : Int} (hr : -900 ≤ r ∧ r ≤ 900) (hx : -900 ≤ x ∧ x ≤ 900) (hs : 1 ≤ s ∧ s ≤ 100) (hd : -900 ≤ d ∧ d ≤ 900) : sx_Cl S 11 [.ref c, .int (sz r), .int (sz x), .int (sz s), .int (sz d)] h = some (.inl (some (.int (sz (C.step r x s d)))), h) := by
  obtain ⟨f0, f1, f2, f3, f5, f6, f9, f10, fk, i5, i6⟩ := hC.f (S := S)
  obtain ⟨⟨a1, a2⟩, ⟨a3, a4⟩, a5, a6, a7, a8⟩ := hC.1
  have b2 := mulN_bd a4 a2
  have n0 := nb0
  have n1 := nb1
  simp (disch := omega) only [c11_q, q11, Option.bind_some, sz_lt0, sz_lt, sz_0lt, sz_mul, sz_add, sz_sub, sz_eq0, sz_eq, sz_nat, List.length_map, nb0, nb1, bz_eq0, ↓reduceIte, Int.reduceEq, Int.reduceLT, Int.reduceAdd, Int.reduceSub, Int.reduceMul, Int.reduceNeg]
  refine (m_step_l hC hr hx hs hd C.nc 0 0 (by omega) (by omega)).trans ?_
  rw [Int.zero_add]
  rfl
theorem m_freq_l (hC : sx_CV h K c p q C) {r x s : Int} (hr : -900 ≤ r ∧ r ≤ 900) (hx : -900 ≤ x ∧ x ≤ 900) (hs : 1 ≤ s ∧ s ≤ 100) : ∀ (n d : Nat) (b m : Int) (l7 : Option Value), d + n = 8 → -1 ≤ b ∧ b ≤ 8 → 0 ≤ m ∧ m ≤ 12 →
    sx_Ev S 12 9 [some (.ref c), some (.int (sz r)), some (.int (sz x)), some (.int (sz s)), some (.int (sz b)), some (.int (sz m)), some (.int (sz d)), l7] [] h = some (.inl (some (.int (sz (nbest (fun d => C.step r x s d) b m d n)))), h) := by
  obtain ⟨f0, f1, f2, f3, f5, f6, f9, f10, fk, i5, i6⟩ := hC.f (S := S)
  obtain ⟨⟨a1, a2⟩, ⟨a3, a4⟩, a5, a6, a7, a8⟩ := hC.1
  have b2 := mulN_bd a4 a2
  have n0 := nb0
  have n1 := nb1
  intro n
  induction n with
  | zero =>
    intro d b m l7 hd hb hm
    rw [h12_9]
    simp (disch := omega) only [q12, Option.bind_some, sz_lt0, sz_lt, sz_0lt, sz_mul, sz_add, sz_sub, sz_eq0, sz_eq, sz_nat, List.length_map, nb0, nb1, bz_eq0, ↓reduceIte, Int.reduceEq, Int.reduceLT, Int.reduceAdd, Int.reduceSub, Int.reduceMul, Int.reduceNeg]
    rw [if_pos (by omega)]
    rfl
  | succ n ih =>
    intro d b m l7 hd hb hm
    have hd1 : (d : Int) + 1 = ((d + 1 : Nat) : Int) := by omega
    have g1 := C.step_bd hC.1 r x s d
    have c1 := m_step (S := S) hC (r := r) (x := x) (s := s) (d := d) hr hx hs (by omega)
    rw [h12_9]
    simp (disch := omega) only [q12, c1, hd1, Option.bind_some, sz_lt0, sz_lt, sz_0lt, sz_mul, sz_add, sz_sub, sz_eq0, sz_eq, sz_nat, List.length_map, nb0, nb1, bz_eq0, ↓reduceIte, Int.reduceEq, Int.reduceLT, Int.reduceAdd, Int.reduceSub, Int.reduceMul, Int.reduceNeg]
    rw [if_neg (by omega), nbest]
    by_cases e : m < C.step r x s d
    · rw [if_pos e, if_pos e]
      exact ih (d + 1) d (C.step r x s d) _ (by omega) (by omega) (by omega)
    · rw [if_neg e, if_neg e]
      exact ih (d + 1) b m _ (by omega) (by omega) (by omega)
theorem m_freq (hC : sx_CV h K c p q C) {r x s : Int} (hr : -900 ≤ r ∧ r ≤ 900) (hx : -900 ≤ x ∧ x ≤ 900) (hs : 1 ≤ s ∧ s ≤ 100) : sx_Cl S 12 [.ref c, .int (sz r), .int (sz x), .int (sz s)] h = some (.inl (some (.int (sz (C.freq r x s)))), h) := by
  simp (disch := omega) only [c12_q, q12, Option.bind_some, sz_lt0, sz_lt, sz_0lt, sz_mul, sz_add, sz_sub, sz_eq0, sz_eq, sz_nat, List.length_map, nb0, nb1, bz_eq0, ↓reduceIte, Int.reduceEq, Int.reduceLT, Int.reduceAdd, Int.reduceSub, Int.reduceMul, Int.reduceNeg]
  exact m_freq_l hC hr hx hs 8 0 (-1) 0 none (by omega) (by omega) (by omega)
theorem m_colIn (hC : sx_CV h K c p q C) {i : Int} (hi : -100000 ≤ i ∧ i ≤ 100000) : sx_Cl S 9 [.ref c, .int (sz i)] h = some (.inl (some (.int (sz (C.cl i)))), h) := m_colourIn hC hi
theorem m_shared_l {c2 p2 q2 c3 p3 q3 : Nat} {C2 C3 : Clo} (hC : sx_CV h K c p q C) (hC2 : sx_CV h K c2 p2 q2 C2) (hC3 : sx_CV h K c3 p3 q3 C3) : ∀ (n i : Nat) (t : Int) (l5 l6 : Option Value), i + n = C.ks.length → 0 ≤ t ∧ t ≤ 1000 - n →
    sx_Ev S 10 5 [some (.ref c), some (.ref c2), some (.ref c3), some (.int (sz t)), some (.int (sz i)), l5, l6] [] h = some (.inl (some (.int (sz (t + nsum (fun i => if C.cl i ≠ -1 ∧ C3.cl i ≠ -1 ∧ C.cl i = C2.cl i ∧ C.cl i ≠ C3.cl i then 1 else 0) i n)))), h) := by
  obtain ⟨f0, f1, f2, f3, f5, f6, f9, f10, fk, i5, i6⟩ := hC.f (S := S)
  obtain ⟨⟨a1, a2⟩, ⟨a3, a4⟩, a5, a6, a7, a8⟩ := hC.1
  have b2 := mulN_bd a4 a2
  have n0 := nb0
  have n1 := nb1
  obtain ⟨-, -, -, -, -, -, -, -, fk2, -, -⟩ := hC2.f (S := S)
  obtain ⟨-, -, -, -, -, -, -, -, fk3, -, -⟩ := hC3.f (S := S)
  intro n
  induction n with
  | zero =>
    intro i t l5 l6 hi ht
    rw [h10_5]
    simp (disch := omega) only [q10, m_size hC, fk, Option.bind_some, sz_lt0, sz_lt, sz_0lt, sz_mul, sz_add, sz_sub, sz_eq0, sz_eq, sz_nat, List.length_map, nb0, nb1, bz_eq0, ↓reduceIte, Int.reduceEq, Int.reduceLT, Int.reduceAdd, Int.reduceSub, Int.reduceMul, Int.reduceNeg]
    rw [if_neg (by omega)]
    simp [nsum]
  | succ n ih =>
    intro i t l5 l6 hi ht
    have hi1 : (i : Int) + 1 = ((i + 1 : Nat) : Int) := by omega
    have g1 := C.cl_bd i
    have g2 := C2.cl_bd i
    have g3 := C3.cl_bd i
    have d1 := m_colIn (S := S) hC (i := i) (by omega)
    have d2 := m_colIn (S := S) hC2 (i := i) (by omega)
    have d3 := m_colIn (S := S) hC3 (i := i) (by omega)
    rw [h10_5]
    simp (disch := omega) only [q10, m_size hC, fk, fk2, fk3, d1, d2, d3, hi1, Option.bind_some, sz_lt0, sz_lt, sz_0lt, sz_mul, sz_add, sz_sub, sz_eq0, sz_eq, sz_nat, List.length_map, nb0, nb1, bz_eq0, ↓reduceIte, Int.reduceEq, Int.reduceLT, Int.reduceAdd, Int.reduceSub, Int.reduceMul, Int.reduceNeg]
    rw [if_pos (by omega), nsum]
    by_cases e1 : C.cl i = -1
    · rw [if_pos e1, if_neg (fun q => q.1 e1), ih (i + 1) t _ _ (by omega) (by omega), Int.zero_add]
    · rw [if_neg e1]
      by_cases e2 : C3.cl i = -1
      · rw [if_pos e2, if_neg (fun q => q.2.1 e2), ih (i + 1) t _ _ (by omega) (by omega), Int.zero_add]
      · rw [if_neg e2]
        by_cases e3 : C.cl i = C2.cl i
        · rw [if_pos e3]
          by_cases e4 : C.cl i = C3.cl i
          · rw [if_pos e4, if_neg (fun q => q.2.2.2 e4), ih (i + 1) t _ _ (by omega) (by omega), Int.zero_add]
          · rw [if_neg e4, if_pos ⟨e1, e2, e3, e4⟩, ih (i + 1) (t + 1) _ _ (by omega) (by omega), Int.add_assoc]
        · rw [if_neg e3, if_neg (fun q => e3 q.2.2.1), ih (i + 1) t _ _ (by omega) (by omega), Int.zero_add]
theorem m_shared {c2 p2 q2 c3 p3 q3 : Nat} {C2 C3 : Clo} (hC : sx_CV h K c p q C) (hC2 : sx_CV h K c2 p2 q2 C2) (hC3 : sx_CV h K c3 p3 q3 C3) : sx_Cl S 10 [.ref c, .ref c2, .ref c3] h = some (.inl (some (.int (sz (nshared C C2 C3)))), h) := by
  obtain ⟨f0, f1, f2, f3, f5, f6, f9, f10, fk, i5, i6⟩ := hC.f (S := S)
  obtain ⟨⟨a1, a2⟩, ⟨a3, a4⟩, a5, a6, a7, a8⟩ := hC.1
  have b2 := mulN_bd a4 a2
  have n0 := nb0
  have n1 := nb1
  simp (disch := omega) only [c10_q, q10, Option.bind_some, sz_lt0, sz_lt, sz_0lt, sz_mul, sz_add, sz_sub, sz_eq0, sz_eq, sz_nat, List.length_map, nb0, nb1, bz_eq0, ↓reduceIte, Int.reduceEq, Int.reduceLT, Int.reduceAdd, Int.reduceSub, Int.reduceMul, Int.reduceNeg]
  refine (m_shared_l hC hC2 hC3 C.ks.length 0 0 none none (by omega) (by omega)).trans ?_
  rw [Int.zero_add]
  rfl
theorem m_like {c2 p2 q2 : Nat} {C2 : Clo} (hC : sx_CV h K c p q C) (hC2 : sx_CV h K c2 p2 q2 C2) : sx_Cl S 24 [.ref c, .ref c2] h = some (.inl (some (.int (sz (bz (decide (C.st = C2.st ∧ C.nc = C2.nc ∧ C.nr = C2.nr)))))), h) := by
  obtain ⟨f0, f1, f2, f3, f5, f6, f9, f10, fk, i5, i6⟩ := hC.f (S := S)
  obtain ⟨⟨a1, a2⟩, ⟨a3, a4⟩, a5, a6, a7, a8⟩ := hC.1
  have b2 := mulN_bd a4 a2
  have n0 := nb0
  have n1 := nb1
  obtain ⟨-, y1, y2, y3, -, -, -, -, -, -, -⟩ := hC2.f (S := S)
  obtain ⟨⟨z1, z2⟩, ⟨z3, z4⟩, -, -, -, z8⟩ := hC2.1
  simp (disch := omega) only [c24_q, q24, f1, f2, f3, y1, y2, y3, Option.bind_some, sz_lt0, sz_lt, sz_0lt, sz_mul, sz_add, sz_sub, sz_eq0, sz_eq, sz_nat, List.length_map, nb0, nb1, bz_eq0, ↓reduceIte, Int.reduceEq, Int.reduceLT, Int.reduceAdd, Int.reduceSub, Int.reduceMul, Int.reduceNeg]
  by_cases e1 : C.st = C2.st
  · rw [if_pos e1]
    by_cases e2 : C.nc = C2.nc
    · rw [if_pos (by omega)]
      by_cases e3 : C.nr = C2.nr
      · rw [if_pos (by omega), decide_eq_true ⟨e1, e2, e3⟩]
        simp only [q24, bz_t]
      · rw [if_neg (by omega), decide_eq_false (fun q => e3 q.2.2)]
        rfl
    · rw [if_neg (by omega), decide_eq_false (fun q => e2 q.2.1)]
      rfl
  · rw [if_neg e1, decide_eq_false (fun q => e1 q.1)]
    rfl
theorem m_holds (hC : sx_CV h K c p q C) : sx_Cl S 39 [.ref c] h = some (.inl (some (.int (sz 1))), h) := by
  obtain ⟨f0, f1, f2, f3, f5, f6, f9, f10, fk, i5, i6⟩ := hC.f (S := S)
  obtain ⟨⟨a1, a2⟩, ⟨a3, a4⟩, a5, a6, a7, a8⟩ := hC.1
  have b2 := mulN_bd a4 a2
  have n0 := nb0
  have n1 := nb1
  simp (disch := omega) only [c39_q, q39, f9, Option.bind_some, sz_lt0, sz_lt, sz_0lt, sz_mul, sz_add, sz_sub, sz_eq0, sz_eq, sz_nat, List.length_map, nb0, nb1, bz_eq0, ↓reduceIte, Int.reduceEq, Int.reduceLT, Int.reduceAdd, Int.reduceSub, Int.reduceMul, Int.reduceNeg]
theorem m_countOf (hC : sx_CV h K c p q C) {k : Int} (hk : -1000 ≤ k ∧ k ≤ 1000) : sx_Cl S 31 [.ref c, .int (sz k)] h = some (.inl (some (.int (sz (C.many k)))), h) := by
  obtain ⟨f0, f1, f2, f3, f5, f6, f9, f10, fk, i5, i6⟩ := hC.f (S := S)
  obtain ⟨⟨a1, a2⟩, ⟨a3, a4⟩, a5, a6, a7, a8⟩ := hC.1
  have b2 := mulN_bd a4 a2
  have n0 := nb0
  have n1 := nb1
  simp (disch := omega) only [c31_q, q31, Option.bind_some, sz_lt0, sz_lt, sz_0lt, sz_mul, sz_add, sz_sub, sz_eq0, sz_eq, sz_nat, List.length_map, nb0, nb1, bz_eq0, ↓reduceIte, Int.reduceEq, Int.reduceLT, Int.reduceAdd, Int.reduceSub, Int.reduceMul, Int.reduceNeg]
  refine (m_countOf_l hC hk C.ks.length 0 0 (by omega) (by omega)).trans ?_
  rw [Int.zero_add]
  rfl
theorem m_wid_l (hK : sx_KV h K A B ws) (hw : ∀ w ∈ ws, 0 ≤ w ∧ w ≤ 100) (hC : sx_CV h K c p q C) {r : Int} (hr : -900 ≤ r ∧ r ≤ 900) : ∀ (n x : Nat) (t : Int), x + n = C.nc → 0 ≤ t ∧ t ≤ 100000 - 100 * n →
    sx_Ev S 33 4 [some (.ref c), some (.int (sz r)), some (.int (sz t)), some (.int (sz x))] [] h = some (.inl (some (.int (sz (t + nsum (fun x => if 0 ≤ C.k (r * C.nc + x) ∧ C.k (r * C.nc + x) < 4 then ws.getD (C.k (r * C.nc + x)).toNat 0 else 0) x n)))), h) := by
  obtain ⟨f0, f1, f2, f3, f5, f6, f9, f10, fk, i5, i6⟩ := hC.f (S := S)
  obtain ⟨⟨a1, a2⟩, ⟨a3, a4⟩, a5, a6, a7, a8⟩ := hC.1
  have b2 := mulN_bd a4 a2
  have n0 := nb0
  have n1 := nb1
  obtain ⟨v2, v3, v4, hk0⟩ := hK.1
  have fkK := sx_klass_of hk0
  intro n
  induction n with
  | zero =>
    intro x t hx ht
    rw [h33_4]
    simp (disch := omega) only [q33, f2, Option.bind_some, sz_lt0, sz_lt, sz_0lt, sz_mul, sz_add, sz_sub, sz_eq0, sz_eq, sz_nat, List.length_map, nb0, nb1, bz_eq0, ↓reduceIte, Int.reduceEq, Int.reduceLT, Int.reduceAdd, Int.reduceSub, Int.reduceMul, Int.reduceNeg]
    rw [if_neg (by omega)]
    simp [nsum]
  | succ n ih =>
    intro x t hx ht
    have hx1 : (x : Int) + 1 = ((x + 1 : Nat) : Int) := by omega
    have b3 := mul_bd (r := r) (nc := C.nc) (by omega) a2
    have g1 := Clo.k_bd (C := C) hC.1 (r * C.nc + x)
    have d1 := m_kindIn (S := S) hC (i := r * C.nc + x) (by omega)
    have d2 := m_cellOf (S := S) hC (r := r) (x := x)
    have d3 := m_widthOf (S := S) hK (k := C.k (r * C.nc + x)) (by omega)
    have hwb : 0 ≤ (if 0 ≤ C.k (r * C.nc + x) ∧ C.k (r * C.nc + x) < 4 then ws.getD (C.k (r * C.nc + x)).toNat 0 else 0) ∧ (if 0 ≤ C.k (r * C.nc + x) ∧ C.k (r * C.nc + x) < 4 then ws.getD (C.k (r * C.nc + x)).toNat 0 else 0) ≤ 100 := by
      split
      · have hlt : (C.k (r * C.nc + x)).toNat < ws.length := by rw [hK.2.2.2]; omega
        exact hw _ (by rw [List.getD_eq_getElem?_getD, List.getElem?_eq_getElem hlt]; exact List.getElem_mem hlt)
      · omega
    rw [h33_4]
    simp (disch := omega) only [q33, f0, f2, fk, fkK, d1, d2, d3, hx1, Option.bind_some, sz_lt0, sz_lt, sz_0lt, sz_mul, sz_add, sz_sub, sz_eq0, sz_eq, sz_nat, List.length_map, nb0, nb1, bz_eq0, ↓reduceIte, Int.reduceEq, Int.reduceLT, Int.reduceAdd, Int.reduceSub, Int.reduceMul, Int.reduceNeg]
    rw [if_pos (by omega), nsum, ih (x + 1) _ (by omega) (by omega), Int.add_assoc]
theorem m_wid (hK : sx_KV h K A B ws) (hw : ∀ w ∈ ws, 0 ≤ w ∧ w ≤ 100) (hC : sx_CV h K c p q C) {r : Int} (hr : -900 ≤ r ∧ r ≤ 900) : sx_Cl S 33 [.ref c, .int (sz r)] h = some (.inl (some (.int (sz (C.wid ws r)))), h) := by
  obtain ⟨f0, f1, f2, f3, f5, f6, f9, f10, fk, i5, i6⟩ := hC.f (S := S)
  obtain ⟨⟨a1, a2⟩, ⟨a3, a4⟩, a5, a6, a7, a8⟩ := hC.1
  have b2 := mulN_bd a4 a2
  have n0 := nb0
  have n1 := nb1
  simp (disch := omega) only [c33_q, q33, Option.bind_some, sz_lt0, sz_lt, sz_0lt, sz_mul, sz_add, sz_sub, sz_eq0, sz_eq, sz_nat, List.length_map, nb0, nb1, bz_eq0, ↓reduceIte, Int.reduceEq, Int.reduceLT, Int.reduceAdd, Int.reduceSub, Int.reduceMul, Int.reduceNeg]
  refine (m_wid_l hK hw hC hr C.nc 0 0 (by omega) (by omega)).trans ?_
  rw [Int.zero_add]
  rfl
theorem m_emw_x (hC : sx_CV h K c p q C) {w v : Nat} (hw : w ≤ 100) {r : Nat} (hr : r ≤ 100) : ∀ (n x : Nat), x + n = w →
    sx_Ev S 34 10 [some (.ref c), some (.int (sz w)), some (.int (sz v)), some (.int (sz r)), some (.int (sz x))] [] h = if nall (fun x => decide (C.k (r * C.nc + x) ≠ -1)) x n = true then sx_Ev S 34 2 [some (.ref c), some (.int (sz w)), some (.int (sz v)), some (.int (sz ((r + 1 : Nat) : Int))), some (.int (sz (w : Int)))] [] h else some (.inl (some (.int (sz 1))), h) := by
  obtain ⟨f0, f1, f2, f3, f5, f6, f9, f10, fk, i5, i6⟩ := hC.f (S := S)
  obtain ⟨⟨a1, a2⟩, ⟨a3, a4⟩, a5, a6, a7, a8⟩ := hC.1
  have b2 := mulN_bd a4 a2
  have n0 := nb0
  have n1 := nb1
  have hr1 : (r : Int) + 1 = ((r + 1 : Nat) : Int) := by omega
  intro n
  induction n with
  | zero =>
    intro x hx
    rw [h34_10]
    simp (disch := omega) only [q34, hr1, Option.bind_some, sz_lt0, sz_lt, sz_0lt, sz_mul, sz_add, sz_sub, sz_eq0, sz_eq, sz_nat, List.length_map, nb0, nb1, bz_eq0, ↓reduceIte, Int.reduceEq, Int.reduceLT, Int.reduceAdd, Int.reduceSub, Int.reduceMul, Int.reduceNeg]
    rw [if_neg (by omega), show x = w by omega]
    rfl
  | succ n ih =>
    intro x hx
    have hx1 : (x : Int) + 1 = ((x + 1 : Nat) : Int) := by omega
    have b3 := mul_bd (r := r) (nc := C.nc) (by omega) a2
    have g1 := Clo.k_bd (C := C) hC.1 (r * C.nc + x)
    have d1 := m_kindIn (S := S) hC (i := r * C.nc + x) (by omega)
    have d2 := m_cellOf (S := S) hC (r := r) (x := x)
    rw [h34_10]
    simp (disch := omega) only [q34, fk, d1, d2, hx1, Option.bind_some, sz_lt0, sz_lt, sz_0lt, sz_mul, sz_add, sz_sub, sz_eq0, sz_eq, sz_nat, List.length_map, nb0, nb1, bz_eq0, ↓reduceIte, Int.reduceEq, Int.reduceLT, Int.reduceAdd, Int.reduceSub, Int.reduceMul, Int.reduceNeg]
    rw [if_pos (by omega), nall]
    by_cases e : C.k (r * C.nc + x) = -1
    · rw [if_pos e, decide_eq_false (fun q => q e), Bool.false_and, if_neg (by simp)]
    · rw [if_neg e, decide_eq_true e, Bool.true_and]
      exact ih (x + 1) (by omega)
theorem m_emw_r (hC : sx_CV h K c p q C) {w v : Nat} (hw : w ≤ 100) (hv : v ≤ 100) : ∀ (n r : Nat) (l4 : Option Value), r + n = v →
    sx_Ev S 34 2 [some (.ref c), some (.int (sz w)), some (.int (sz v)), some (.int (sz r)), l4] [] h = some (.inl (some (.int (sz (bz (!nall (fun r => nall (fun x => decide (C.k (r * C.nc + x) ≠ -1)) 0 w) r n))))), h) := by
  obtain ⟨f0, f1, f2, f3, f5, f6, f9, f10, fk, i5, i6⟩ := hC.f (S := S)
  obtain ⟨⟨a1, a2⟩, ⟨a3, a4⟩, a5, a6, a7, a8⟩ := hC.1
  have b2 := mulN_bd a4 a2
  have n0 := nb0
  have n1 := nb1
  intro n
  induction n with
  | zero =>
    intro r l4 hr
    rw [h34_2]
    simp (disch := omega) only [q34, Option.bind_some, sz_lt0, sz_lt, sz_0lt, sz_mul, sz_add, sz_sub, sz_eq0, sz_eq, sz_nat, List.length_map, nb0, nb1, bz_eq0, ↓reduceIte, Int.reduceEq, Int.reduceLT, Int.reduceAdd, Int.reduceSub, Int.reduceMul, Int.reduceNeg]
    rw [if_neg (by omega)]
    rfl
  | succ n ih =>
    intro r l4 hr
    rw [h34_2]
    simp (disch := omega) only [q34, Option.bind_some, sz_lt0, sz_lt, sz_0lt, sz_mul, sz_add, sz_sub, sz_eq0, sz_eq, sz_nat, List.length_map, nb0, nb1, bz_eq0, ↓reduceIte, Int.reduceEq, Int.reduceLT, Int.reduceAdd, Int.reduceSub, Int.reduceMul, Int.reduceNeg]
    rw [if_pos (by omega)]
    refine Eq.trans (m_emw_x hC hw (by omega) w 0 (by omega)) ?_
    rw [nall]
    cases nall (fun x => decide (C.k (r * C.nc + x) ≠ -1)) 0 w
    · rw [if_neg (by simp)]; rfl
    · rw [if_pos rfl, ih (r + 1) _ (by omega)]; rfl
theorem m_emw (hC : sx_CV h K c p q C) {w v : Nat} (hw : w ≤ 100) (hv : v ≤ 100) : sx_Cl S 34 [.ref c, .int (sz w), .int (sz v)] h = some (.inl (some (.int (sz (bz (C.emw w v))))), h) := by
  simp (disch := omega) only [c34_q, q34, Option.bind_some, sz_lt0, sz_lt, sz_0lt, sz_mul, sz_add, sz_sub, sz_eq0, sz_eq, sz_nat, List.length_map, nb0, nb1, bz_eq0, ↓reduceIte, Int.reduceEq, Int.reduceLT, Int.reduceAdd, Int.reduceSub, Int.reduceMul, Int.reduceNeg]
  exact m_emw_r hC hw hv v 0 none (by omega)
end SXH2
