/-! COUNTING what breaks the rules -/
def Clo.twos (C : Clo) (ru r x : Int) : Int :=
  bz (C.two ru r x (-1) (-1)) + bz (C.two ru r x (-1) 0) + bz (C.two ru r x (-1) 1) + (bz (C.two ru r x 0 (-1)) + bz (C.two ru r x 0 0) + bz (C.two ru r x 0 1)) + (bz (C.two ru r x 1 (-1)) + bz (C.two ru r x 1 0) + bz (C.two ru r x 1 1))
theorem Clo.twos_bd (C : Clo) (ru r x : Int) : 0 ≤ C.twos ru r x ∧ C.twos ru r x ≤ 9 := by
  unfold Clo.twos
  have b (d e : Int) := bz_bd (C.two ru r x d e)
  have b1 := b (-1) (-1)
  have b2 := b (-1) 0
  have b3 := b (-1) 1
  have b4 := b 0 (-1)
  have b5 := b 0 0
  have b6 := b 0 1
  have b7 := b 1 (-1)
  have b8 := b 1 0
  have b9 := b 1 1
  omega
def Clo.cell (C : Clo) (rule r x : Int) : Int := if rule = 4 then bz (C.three r x) else if rule = 8 then bz (C.frame r x) else C.twos rule r x
theorem Clo.cell_bd (C : Clo) (rule r x : Int) : 0 ≤ C.cell rule r x ∧ C.cell rule r x ≤ 9 := by
  unfold Clo.cell
  have := bz_bd (C.three r x)
  have := bz_bd (C.frame r x)
  have := C.twos_bd rule r x
  split
  · omega
  · split <;> omega
def Clo.cnt (C : Clo) (rule : Int) : Int := nsum (fun r => nsum (fun x => C.cell rule r x) 0 C.nc) 0 C.nr
def Clo.br (C : Clo) (rule : Int) : Int := if rule = 1 ∨ rule = 2 then (C.cnt rule).tdiv 2 else C.cnt rule
theorem Clo.row_bd (C : Clo) (hC : C.ok) (rule : Int) (r : Nat) (i n : Nat) (hn : n ≤ 12) : 0 ≤ nsum (fun x => C.cell rule r x) i n ∧ nsum (fun x => C.cell rule r x) i n ≤ 108 := by
  have := nsum_bd (f := fun x : Nat => C.cell rule r x) (a := 0) (b := 9) (by omega) (by omega) n i (fun j _ _ => C.cell_bd rule r j)
  omega
theorem Clo.cnt_bd (C : Clo) (hC : C.ok) (rule : Int) (i n : Nat) (hn : n ≤ 12) : 0 ≤ nsum (fun r => nsum (fun x => C.cell rule r x) 0 C.nc) i n ∧ nsum (fun r => nsum (fun x => C.cell rule r x) 0 C.nc) i n ≤ 1296 := by
  have := nsum_bd (f := fun r : Nat => nsum (fun x : Nat => C.cell rule r x) 0 C.nc) (a := 0) (b := 108) (by omega) (by omega) n i (fun j _ _ => C.row_bd hC rule j 0 C.nc hC.1.2)
  omega
theorem Clo.br_bd (C : Clo) (hC : C.ok) (rule : Int) : 0 ≤ C.br rule ∧ C.br rule ≤ 1296 := by
  have := C.cnt_bd hC rule 0 C.nr hC.2.1.2
  unfold Clo.br
  have e : C.cnt rule = nsum (fun r => nsum (fun x => C.cell rule r x) 0 C.nc) 0 C.nr := rfl
  split
  · rw [Int.tdiv_eq_ediv_of_nonneg (by omega)]
    omega
  · omega
section SXD3
variable {S : List Int32} {h : sx_H} {K c p q : Nat} {C : Clo}
theorem m_two_s (hC : sx_CV h K c p q C) {ru r x d e t : Int} (hru : 0 ≤ ru ∧ ru ≤ 15) (hr : 0 ≤ r ∧ r ≤ 800) (hx : 0 ≤ x ∧ x ≤ 800) (hd : -1 ≤ d ∧ d ≤ 1) (he : -1 ≤ e ∧ e ≤ 1) (ht : 0 ≤ t ∧ t ≤ 100) (l8 : Option Value) :
    ∃ l8' : Option Value, sx_Ev S 46 23 [some (.ref c), some (.int (sz ru)), some (.int (sz r)), some (.int (sz x)), some (.int (sz (C.g r x))), some (.int (sz t)), some (.int (sz d)), some (.int (sz e)), l8] [] h =
      sx_Ev S 46 23 [some (.ref c), some (.int (sz ru)), some (.int (sz r)), some (.int (sz x)), some (.int (sz (C.g r x))), some (.int (sz (t + bz (C.two ru r x d e)))), some (.int (sz d)), some (.int (sz (e + 1))), l8'] [] h := by
  obtain ⟨f0, f1, f2, f3, f5, f6, f9, f10, fk, i5, i6⟩ := hC.f (S := S)
  obtain ⟨⟨a1, a2⟩, ⟨a3, a4⟩, a5, a6, a7, a8⟩ := hC.1
  have b2 := mulN_bd a4 a2
  have n0 := nb0
  have n1 := nb1
  have g0 := C.g_bd hC.1 r x
  have g1 := C.g_bd hC.1 (r + d) (x + e)
  rw [h46_23]
  simp (disch := omega) only [q46_0, q46_1, m_colourAt hC, m_nb hC, m_sl hC, sz_and1, sz_bit2, Option.bind_some, sz_lt0, sz_lt, sz_0lt, sz_mul, sz_add, sz_sub, sz_eq0, sz_eq, sz_nat, List.length_map, nb0, nb1, bz_eq0, ↓reduceIte, Int.reduceEq, Int.reduceLT, Int.reduceAdd, Int.reduceSub, Int.reduceMul, Int.reduceNeg]
  rw [if_neg (by omega)]
  by_cases e1 : C.g r x = -1
  · have e2 : C.two ru r x d e = false := by unfold Clo.two; rw [decide_eq_false (by omega)]; rfl
    rw [if_pos e1, e2]
    exact ⟨l8, by simp [bz]⟩
  · rw [if_neg e1]
    by_cases e3 : C.g r x = C.g (r + d) (x + e)
    · rw [if_pos e3]
      refine ⟨some (.int (sz (bz (C.nb r x d e)))), ?_⟩
      unfold Clo.two
      rw [decide_eq_true (show C.g r x ≠ -1 ∧ C.g r x = C.g (r + d) (x + e) from ⟨e1, e3⟩)]
      by_cases e4 : ru % 2 = 1
      · rw [decide_eq_true e4, if_neg (by omega)]
        cases e5 : C.nb r x d e
        · rw [if_pos rfl]
          by_cases e6 : ru / 2 % 2 = 1
          · rw [decide_eq_true e6, if_neg (by omega)]
            cases e7 : C.sl false d e
            · rw [if_pos rfl]; simp [bz]
            · rw [if_neg (by simp)]; simp [bz]
          · rw [decide_eq_false e6, if_pos (by omega)]; simp [bz]
        · rw [if_neg (by simp)]; simp [bz]
      · rw [decide_eq_false e4, if_pos (by omega)]
        by_cases e6 : ru / 2 % 2 = 1
        · rw [decide_eq_true e6, if_neg (by omega)]
          cases e7 : C.sl (C.nb r x d e) d e
          · rw [if_pos rfl]; simp [bz]
          · rw [if_neg (by simp)]; simp [bz]
        · rw [decide_eq_false e6, if_pos (by omega)]; simp [bz]
    · have e2 : C.two ru r x d e = false := by unfold Clo.two; rw [decide_eq_false (fun q => e3 q.2)]; rfl
      rw [if_neg e3, e2]
      exact ⟨l8, by simp [bz]⟩
theorem m_two_r (hC : sx_CV h K c p q C) {ru r x d t : Int} (hru : 0 ≤ ru ∧ ru ≤ 15) (hr : 0 ≤ r ∧ r ≤ 800) (hx : 0 ≤ x ∧ x ≤ 800) (hd : -1 ≤ d ∧ d ≤ 1) (ht : 0 ≤ t ∧ t ≤ 50) (l7 l8 : Option Value) :
    ∃ l8' : Option Value, sx_Ev S 46 14 [some (.ref c), some (.int (sz ru)), some (.int (sz r)), some (.int (sz x)), some (.int (sz (C.g r x))), some (.int (sz t)), some (.int (sz d)), l7, l8] [] h =
      sx_Ev S 46 14 [some (.ref c), some (.int (sz ru)), some (.int (sz r)), some (.int (sz x)), some (.int (sz (C.g r x))), some (.int (sz (t + (bz (C.two ru r x d (-1)) + bz (C.two ru r x d 0) + bz (C.two ru r x d 1))))), some (.int (sz (d + 1))), some (.int (sz 2)), l8'] [] h := by
  have b1 := bz_bd (C.two ru r x d (-1))
  have b2 := bz_bd (C.two ru r x d 0)
  have b3 := bz_bd (C.two ru r x d 1)
  obtain ⟨m1, e1⟩ := m_two_s (S := S) hC (e := -1) (t := t) hru hr hx hd (by omega) (by omega) l8
  obtain ⟨m2, e2⟩ := m_two_s (S := S) hC (e := -1 + 1) (t := t + bz (C.two ru r x d (-1))) hru hr hx hd (by omega) (by omega) m1
  obtain ⟨m3, e3⟩ := m_two_s (S := S) hC (e := -1 + 1 + 1) (t := t + bz (C.two ru r x d (-1)) + bz (C.two ru r x d 0)) hru hr hx hd (by omega) (by omega) m2
  refine ⟨m3, ?_⟩
  rw [h46_14]
  simp (disch := omega) only [q46_0, q46_1, Option.bind_some, sz_lt0, sz_lt, sz_0lt, sz_mul, sz_add, sz_sub, sz_eq0, sz_eq, sz_nat, List.length_map, nb0, nb1, bz_eq0, ↓reduceIte, Int.reduceEq, Int.reduceLT, Int.reduceAdd, Int.reduceSub, Int.reduceMul, Int.reduceNeg]
  rw [if_neg (by omega), e1]
  refine Eq.trans e2 (Eq.trans e3 ?_)
  rw [h46_23]
  simp (disch := omega) only [q46_0, q46_1, Option.bind_some, sz_lt0, sz_lt, sz_0lt, sz_mul, sz_add, sz_sub, sz_eq0, sz_eq, sz_nat, List.length_map, nb0, nb1, bz_eq0, ↓reduceIte, Int.reduceEq, Int.reduceLT, Int.reduceAdd, Int.reduceSub, Int.reduceMul, Int.reduceNeg]
  rw [Int.add_assoc, Int.add_assoc, Int.add_assoc]
theorem m_twos (hC : sx_CV h K c p q C) {ru r x : Int} (hru : 0 ≤ ru ∧ ru ≤ 15) (hr : 0 ≤ r ∧ r ≤ 800) (hx : 0 ≤ x ∧ x ≤ 800) : sx_Cl S 46 [.ref c, .int (sz ru), .int (sz r), .int (sz x)] h = some (.inl (some (.int (sz (C.twos ru r x)))), h) := by
  obtain ⟨f0, f1, f2, f3, f5, f6, f9, f10, fk, i5, i6⟩ := hC.f (S := S)
  obtain ⟨⟨a1, a2⟩, ⟨a3, a4⟩, a5, a6, a7, a8⟩ := hC.1
  have b2 := mulN_bd a4 a2
  have n0 := nb0
  have n1 := nb1
  have b (d e : Int) := bz_bd (C.two ru r x d e)
  have b1 := b (-1) (-1)
  have b2 := b (-1) 0
  have b3 := b (-1) 1
  have b4 := b 0 (-1)
  have b5 := b 0 0
  have b6 := b 0 1
  have b7 := b 1 (-1)
  have b8 := b 1 0
  have b9 := b 1 1
  obtain ⟨m1, e1⟩ := m_two_r (S := S) hC (d := -1) (t := 0) hru hr hx (by omega) (by omega) none none
  obtain ⟨m2, e2⟩ := m_two_r (S := S) hC (d := -1 + 1) (t := 0 + (bz (C.two ru r x (-1) (-1)) + bz (C.two ru r x (-1) 0) + bz (C.two ru r x (-1) 1))) hru hr hx (by omega) (by omega) (some (.int (sz 2))) m1
  obtain ⟨m3, e3⟩ := m_two_r (S := S) hC (d := -1 + 1 + 1) (t := 0 + (bz (C.two ru r x (-1) (-1)) + bz (C.two ru r x (-1) 0) + bz (C.two ru r x (-1) 1)) + (bz (C.two ru r x 0 (-1)) + bz (C.two ru r x 0 0) + bz (C.two ru r x 0 1))) hru hr hx (by omega) (by omega) (some (.int (sz 2))) m2
  simp (disch := omega) only [c46_q, q46_0, q46_1, m_colourAt hC, Option.bind_some, sz_lt0, sz_lt, sz_0lt, sz_mul, sz_add, sz_sub, sz_eq0, sz_eq, sz_nat, List.length_map, nb0, nb1, bz_eq0, ↓reduceIte, Int.reduceEq, Int.reduceLT, Int.reduceAdd, Int.reduceSub, Int.reduceMul, Int.reduceNeg]
  rw [e1]
  refine Eq.trans e2 (Eq.trans e3 ?_)
  rw [h46_14]
  simp (disch := omega) only [q46_0, q46_1, Option.bind_some, sz_lt0, sz_lt, sz_0lt, sz_mul, sz_add, sz_sub, sz_eq0, sz_eq, sz_nat, List.length_map, nb0, nb1, bz_eq0, ↓reduceIte, Int.reduceEq, Int.reduceLT, Int.reduceAdd, Int.reduceSub, Int.reduceMul, Int.reduceNeg]
  unfold Clo.twos
  rw [Int.zero_add]
theorem m_cell_s (hC : sx_CV h K c p q C) {rule t : Int} (hru : rule = 1 ∨ rule = 2 ∨ rule = 4 ∨ rule = 8) {r x : Nat} (hr : r < C.nr) (hx : x < C.nc) (ht : 0 ≤ t ∧ t ≤ 100000) :
    sx_Ev S 47 15 [some (.ref c), some (.int (sz rule)), some (.int (sz t)), some (.int (sz r)), some (.int (sz x))] [] h = sx_Ev S 47 15 [some (.ref c), some (.int (sz rule)), some (.int (sz (t + C.cell rule r x))), some (.int (sz r)), some (.int (sz ((x + 1 : Nat) : Int)))] [] h := by
  obtain ⟨f0, f1, f2, f3, f5, f6, f9, f10, fk, i5, i6⟩ := hC.f (S := S)
  obtain ⟨⟨a1, a2⟩, ⟨a3, a4⟩, a5, a6, a7, a8⟩ := hC.1
  have b2 := mulN_bd a4 a2
  have n0 := nb0
  have n1 := nb1
  have hx1 : (x : Int) + 1 = ((x + 1 : Nat) : Int) := by omega
  have hcell := C.cell_bd rule r x
  have hc2 : C.cell rule r x = if rule = 4 then bz (C.three r x) else if rule = 8 then bz (C.frame r x) else C.twos rule r x := rfl
  have hf := m_frame (S := S) hC (r := r) (x := x) (by omega) (by omega)
  rw [h47_15]
  simp (disch := omega) only [q47_0, q47_1, m_three hC, hf, m_twos hC, f2, f3, hx1, Option.bind_some, sz_lt0, sz_lt, sz_0lt, sz_mul, sz_add, sz_sub, sz_eq0, sz_eq, sz_nat, List.length_map, nb0, nb1, bz_eq0, ↓reduceIte, Int.reduceEq, Int.reduceLT, Int.reduceAdd, Int.reduceSub, Int.reduceMul, Int.reduceNeg]
  rw [if_pos (by omega), hc2]
  rcases hru with e | e | e | e <;> subst e
  · simp only [↓reduceIte, Int.reduceEq]
  · simp only [↓reduceIte, Int.reduceEq]
  · simp only [↓reduceIte, Int.reduceEq]
    cases C.three r x <;> rfl
  · simp only [↓reduceIte, Int.reduceEq]
    cases C.frame r x <;> rfl
theorem m_row_s (hC : sx_CV h K c p q C) {rule : Int} (hru : rule = 1 ∨ rule = 2 ∨ rule = 4 ∨ rule = 8) {r : Nat} (hr : r < C.nr) : ∀ (n x : Nat) (t : Int), x + n = C.nc → 0 ≤ t ∧ t ≤ 50000 - 9 * n →
    sx_Ev S 47 15 [some (.ref c), some (.int (sz rule)), some (.int (sz t)), some (.int (sz r)), some (.int (sz x))] [] h = sx_Ev S 47 4 [some (.ref c), some (.int (sz rule)), some (.int (sz (t + nsum (fun x => C.cell rule r x) x n))), some (.int (sz ((r + 1 : Nat) : Int))), some (.int (sz C.nc))] [] h := by
  obtain ⟨f0, f1, f2, f3, f5, f6, f9, f10, fk, i5, i6⟩ := hC.f (S := S)
  obtain ⟨⟨a1, a2⟩, ⟨a3, a4⟩, a5, a6, a7, a8⟩ := hC.1
  have b2 := mulN_bd a4 a2
  have n0 := nb0
  have n1 := nb1
  intro n
  induction n with
  | zero =>
    intro x t hx ht
    have hr1 : (r : Int) + 1 = ((r + 1 : Nat) : Int) := by omega
    rw [h47_15]
    simp (disch := omega) only [q47_0, q47_1, f2, hr1, Option.bind_some, sz_lt0, sz_lt, sz_0lt, sz_mul, sz_add, sz_sub, sz_eq0, sz_eq, sz_nat, List.length_map, nb0, nb1, bz_eq0, ↓reduceIte, Int.reduceEq, Int.reduceLT, Int.reduceAdd, Int.reduceSub, Int.reduceMul, Int.reduceNeg]
    rw [if_neg (by omega), show x = C.nc by omega]
    simp [nsum]
  | succ n ih =>
    intro x t hx ht
    have hb := C.cell_bd rule r x
    rw [m_cell_s hC hru hr (by omega) (by omega), ih (x + 1) (t + C.cell rule r x) (by omega) (by omega)]
    show _ = sx_Ev S 47 4 [_, _, some (.int (sz (t + (C.cell rule r x + nsum (fun x => C.cell rule r x) (x + 1) n)))), _, _] [] h
    rw [Int.add_assoc]
theorem m_rows_s (hC : sx_CV h K c p q C) {rule : Int} (hru : rule = 1 ∨ rule = 2 ∨ rule = 4 ∨ rule = 8) : ∀ (n r : Nat) (t : Int) (l4 : Option Value), r + n = C.nr → 0 ≤ t ∧ t ≤ 10000 - 200 * n → n ≤ 12 →
    sx_Ev S 47 4 [some (.ref c), some (.int (sz rule)), some (.int (sz t)), some (.int (sz r)), l4] [] h = some (.inl (some (.int (sz (if rule = 1 ∨ rule = 2 then (t + nsum (fun r => nsum (fun x => C.cell rule r x) 0 C.nc) r n).tdiv 2 else t + nsum (fun r => nsum (fun x => C.cell rule r x) 0 C.nc) r n)))), h) := by
  obtain ⟨f0, f1, f2, f3, f5, f6, f9, f10, fk, i5, i6⟩ := hC.f (S := S)
  obtain ⟨⟨a1, a2⟩, ⟨a3, a4⟩, a5, a6, a7, a8⟩ := hC.1
  have b2 := mulN_bd a4 a2
  have n0 := nb0
  have n1 := nb1
  intro n
  induction n with
  | zero =>
    intro r t l4 hr ht hn
    rw [h47_4]
    simp (disch := omega) only [q47_0, q47_1, f3, sz_tdiv, Option.bind_some, sz_lt0, sz_lt, sz_0lt, sz_mul, sz_add, sz_sub, sz_eq0, sz_eq, sz_nat, List.length_map, nb0, nb1, bz_eq0, ↓reduceIte, Int.reduceEq, Int.reduceLT, Int.reduceAdd, Int.reduceSub, Int.reduceMul, Int.reduceNeg]
    rw [if_neg (by omega)]
    rcases hru with e | e | e | e <;> subst e <;> simp [nsum]
  | succ n ih =>
    intro r t l4 hr ht hn
    have hb := C.row_bd hC.1 rule r 0 C.nc a2
    have e := ih (r + 1) (t + nsum (fun x => C.cell rule r x) 0 C.nc) (some (.int (sz C.nc))) (by omega) (by omega) (by omega)
    have e0 := m_row_s (S := S) hC hru (r := r) (by omega) C.nc 0 t (by omega) (by omega)
    rw [h47_4]
    simp (disch := omega) only [q47_0, q47_1, f3, Option.bind_some, sz_lt0, sz_lt, sz_0lt, sz_mul, sz_add, sz_sub, sz_eq0, sz_eq, sz_nat, List.length_map, nb0, nb1, bz_eq0, ↓reduceIte, Int.reduceEq, Int.reduceLT, Int.reduceAdd, Int.reduceSub, Int.reduceMul, Int.reduceNeg]
    rw [if_pos (by omega)]
    refine Eq.trans e0 (Eq.trans e ?_)
    rw [Int.add_assoc]
    rfl
theorem m_br (hC : sx_CV h K c p q C) {rule : Int} (hru : rule = 1 ∨ rule = 2 ∨ rule = 4 ∨ rule = 8) : sx_Cl S 47 [.ref c, .int (sz rule)] h = some (.inl (some (.int (sz (C.br rule)))), h) := by
  obtain ⟨f0, f1, f2, f3, f5, f6, f9, f10, fk, i5, i6⟩ := hC.f (S := S)
  obtain ⟨⟨a1, a2⟩, ⟨a3, a4⟩, a5, a6, a7, a8⟩ := hC.1
  have b2 := mulN_bd a4 a2
  have n0 := nb0
  have n1 := nb1
  have e := m_rows_s (S := S) hC hru C.nr 0 0 none (by omega) (by omega) a4
  have ec : C.cnt rule = nsum (fun r => nsum (fun x => C.cell rule r x) 0 C.nc) 0 C.nr := rfl
  rw [← ec, Int.zero_add] at e
  simp (disch := omega) only [c47_q, q47_0, q47_1, Option.bind_some, sz_lt0, sz_lt, sz_0lt, sz_mul, sz_add, sz_sub, sz_eq0, sz_eq, sz_nat, List.length_map, nb0, nb1, bz_eq0, ↓reduceIte, Int.reduceEq, Int.reduceLT, Int.reduceAdd, Int.reduceSub, Int.reduceMul, Int.reduceNeg]
  exact e
def Clo.own (C : Clo) : Int := (if C.ru % 2 = 1 then C.br 1 else 0) + (if C.ru / 2 % 2 = 1 then C.br 2 else 0) + (if C.ru / 4 % 2 = 1 then C.br 4 else 0) + (if C.ru / 8 % 2 = 1 then C.br 8 else 0)
theorem m_own (hC : sx_CV h K c p q C) : sx_Cl S 48 [.ref c] h = some (.inl (some (.int (sz C.own))), h) := by
  obtain ⟨f0, f1, f2, f3, f5, f6, f9, f10, fk, i5, i6⟩ := hC.f (S := S)
  obtain ⟨⟨a1, a2⟩, ⟨a3, a4⟩, a5, a6, a7, a8⟩ := hC.1
  have b2 := mulN_bd a4 a2
  have n0 := nb0
  have n1 := nb1
  have k1 := C.br_bd hC.1 1
  have k2 := C.br_bd hC.1 2
  have k4 := C.br_bd hC.1 4
  have k8 := C.br_bd hC.1 8
  have w1 := m_br (S := S) hC (rule := 1) (by omega)
  have w2 := m_br (S := S) hC (rule := 2) (by omega)
  have w4 := m_br (S := S) hC (rule := 4) (by omega)
  have w8 := m_br (S := S) hC (rule := 8) (by omega)
  have x1 := sz_and1 (x := C.ru) (by omega)
  have x2 := sz_bit2 a7
  have x4 := sz_bit4 a7
  have x8 := sz_bit8 a7
  simp (disch := omega) only [c48_q, q48, h48_4, f10, w1, w2, w4, w8, x1, x2, x4, x8, Option.bind_some, sz_lt0, sz_lt, sz_0lt, sz_mul, sz_add, sz_sub, sz_eq0, sz_eq, sz_nat, List.length_map, nb0, nb1, bz_eq0, ↓reduceIte, Int.reduceEq, Int.reduceLT, Int.reduceAdd, Int.reduceSub, Int.reduceMul, Int.reduceNeg]
  unfold Clo.own
  repeat' split
  all_goals first
    | (exfalso; omega)
    | (simp [Int.add_assoc]; done)
    | simp
def Clo.bad (C : Clo) (r x : Int) : Bool := (decide (C.ru % 4 ≠ 0) && decide (0 < C.twos C.ru r x)) || (decide (C.ru / 4 % 2 = 1) && (C.three r (x - 2) || C.three r (x - 1) || C.three r x)) || (decide (C.ru / 8 % 2 = 1) && if r = 0 ∧ x = 0 then decide (0 < C.br 8) else C.frame r x)
theorem m_bad_8 (hC : sx_CV h K c p q C) {r x : Int} (hr : 0 ≤ r ∧ r < C.nr) (hx : 0 ≤ x ∧ x < C.nc) : sx_Ev S 49 62 [some (.ref c), some (.int (sz r)), some (.int (sz x)), some (.int (sz C.ru))] [] h = some (.inl (some (.int (sz (bz (decide (C.ru / 8 % 2 = 1) && if r = 0 ∧ x = 0 then decide (0 < C.br 8) else C.frame r x))))), h) := by
  obtain ⟨f0, f1, f2, f3, f5, f6, f9, f10, fk, i5, i6⟩ := hC.f (S := S)
  obtain ⟨⟨a1, a2⟩, ⟨a3, a4⟩, a5, a6, a7, a8⟩ := hC.1
  have b2 := mulN_bd a4 a2
  have n0 := nb0
  have n1 := nb1
  have k8 := C.br_bd hC.1 8
  have w8 := m_br (S := S) hC (rule := 8) (by omega)
  have x8 := sz_bit8 a7
  have hf := m_frame (S := S) hC hr hx
  have hnf : narrow .boolean (.int (sz (bz (C.frame r x)))) = .int (sz (bz (C.frame r x))) := by cases C.frame r x <;> rfl
  rw [h49_62]
  simp (disch := omega) only [q49_0, q49_1, w8, hf, x8, Option.bind_some, sz_lt0, sz_lt, sz_0lt, sz_mul, sz_add, sz_sub, sz_eq0, sz_eq, sz_nat, List.length_map, nb0, nb1, bz_eq0, ↓reduceIte, Int.reduceEq, Int.reduceLT, Int.reduceAdd, Int.reduceSub, Int.reduceMul, Int.reduceNeg]
  by_cases c8 : C.ru / 8 % 2 = 1
  · rw [if_neg (by omega), decide_eq_true c8]
    by_cases cr : r = 0 <;> by_cases cx : x = 0 <;> by_cases cb : 0 < C.br 8 <;> simp [cr, cx, cb, bz]
  · rw [if_pos (by omega), decide_eq_false c8]; rfl
theorem m_bad_4 (hC : sx_CV h K c p q C) {r x : Int} (hr : 0 ≤ r ∧ r < C.nr) (hx : 0 ≤ x ∧ x < C.nc) : sx_Ev S 49 23 [some (.ref c), some (.int (sz r)), some (.int (sz x)), some (.int (sz C.ru))] [] h = some (.inl (some (.int (sz (bz ((decide (C.ru / 4 % 2 = 1) && (C.three r (x - 2) || C.three r (x - 1) || C.three r x)) || (decide (C.ru / 8 % 2 = 1) && if r = 0 ∧ x = 0 then decide (0 < C.br 8) else C.frame r x)))))), h) := by
  obtain ⟨f0, f1, f2, f3, f5, f6, f9, f10, fk, i5, i6⟩ := hC.f (S := S)
  obtain ⟨⟨a1, a2⟩, ⟨a3, a4⟩, a5, a6, a7, a8⟩ := hC.1
  have b2 := mulN_bd a4 a2
  have n0 := nb0
  have n1 := nb1
  have x4 := sz_bit4 a7
  have e8 := m_bad_8 (S := S) hC hr hx
  generalize (decide (C.ru / 8 % 2 = 1) && if r = 0 ∧ x = 0 then decide (0 < C.br 8) else C.frame r x) = w at e8 ⊢
  rw [h49_23]
  simp (disch := omega) only [q49_0, q49_1, e8, x4, m_three hC, Option.bind_some, sz_lt0, sz_lt, sz_0lt, sz_mul, sz_add, sz_sub, sz_eq0, sz_eq, sz_nat, List.length_map, nb0, nb1, bz_eq0, ↓reduceIte, Int.reduceEq, Int.reduceLT, Int.reduceAdd, Int.reduceSub, Int.reduceMul, Int.reduceNeg]
  by_cases c4 : C.ru / 4 % 2 = 1
  · rw [if_neg (by omega), decide_eq_true c4]
    cases C.three r (x - 2) <;> cases C.three r (x - 1) <;> cases C.three r x <;> cases w <;> simp [bz]
  · rw [if_pos (by omega), decide_eq_false c4]
    cases w <;> simp
theorem m_bad (hC : sx_CV h K c p q C) {r x : Int} (hr : 0 ≤ r ∧ r < C.nr) (hx : 0 ≤ x ∧ x < C.nc) : sx_Cl S 49 [.ref c, .int (sz r), .int (sz x)] h = some (.inl (some (.int (sz (bz (C.bad r x))))), h) := by
  obtain ⟨f0, f1, f2, f3, f5, f6, f9, f10, fk, i5, i6⟩ := hC.f (S := S)
  obtain ⟨⟨a1, a2⟩, ⟨a3, a4⟩, a5, a6, a7, a8⟩ := hC.1
  have b2 := mulN_bd a4 a2
  have n0 := nb0
  have n1 := nb1
  have x3 := sz_bit3 a7
  have ht := C.twos_bd C.ru r x
  have e4 := m_bad_4 (S := S) hC hr hx
  simp (disch := omega) only [c49_q, q49_0, q49_1, f10, e4, x3, m_twos hC, Option.bind_some, sz_lt0, sz_lt, sz_0lt, sz_mul, sz_add, sz_sub, sz_eq0, sz_eq, sz_nat, List.length_map, nb0, nb1, bz_eq0, ↓reduceIte, Int.reduceEq, Int.reduceLT, Int.reduceAdd, Int.reduceSub, Int.reduceMul, Int.reduceNeg]
  unfold Clo.bad
  rw [Bool.or_assoc]
  generalize ((decide (C.ru / 4 % 2 = 1) && (C.three r (x - 2) || C.three r (x - 1) || C.three r x)) || (decide (C.ru / 8 % 2 = 1) && if r = 0 ∧ x = 0 then decide (0 < C.br 8) else C.frame r x)) = w
  by_cases c1 : C.ru % 4 = 0 <;> by_cases c2 : 0 < C.twos C.ru r x <;> simp [c1, c2, bz]
end SXD3
