/-! THE CHART: what is read off the colours -/
def nall (f : Nat → Bool) : Nat → Nat → Bool
  | _, 0 => true
  | i, n + 1 => f i && nall f (i + 1) n
/-- the first place from i on, d if there is none -/
def nfnd (f : Nat → Bool) (d : Int) : Nat → Nat → Int
  | _, 0 => d
  | i, n + 1 => if f i = true then i else nfnd f d (i + 1) n
/-- the k-th place from i on -/
def nth (f : Nat → Bool) (w : Nat → Int) : Int → Nat → Nat → Int
  | _, _, 0 => -1
  | k, i, n + 1 => if f i = true then (if k = 0 then w i else nth f w (k - 1) (i + 1) n) else nth f w k (i + 1) n
def Clo.rep (C : Clo) (s : Nat) : Bool := nall (fun r => nall (fun x => decide (C.g r x = C.g r ((x : Int) + s))) 0 (C.nc - s)) 0 C.nr
def Clo.lrep (C : Clo) : Int := nfnd C.rep C.nc 1 (C.nc - 1)
def Clo.mir (C : Clo) : Bool := nall (fun r => nall (fun x => decide (C.g r x = C.g r ((C.nc : Int) - 1 - x))) 0 C.nc) 0 C.nr
def Clo.beg (C : Clo) (r x : Int) (l : Bool) : Bool := decide (C.g r x ≠ -1 ∧ C.g r x ≠ C.g r (if l = true then x + 1 else x - 1))
def Clo.runs (C : Clo) (r : Int) : Int := nsum (fun x => bz (C.beg r x false)) 0 C.nc
def Clo.col (C : Clo) (l : Bool) (i : Nat) : Int := if l = true then (C.nc : Int) - 1 - i else i
def Clo.frun (C : Clo) (r k : Int) (l : Bool) : Int := nth (fun i => C.beg r (C.col l i) l) (C.col l) k 0 C.nc
def Clo.cells (C : Clo) (r b : Int) (l : Bool) : Int := nfnd (fun j => decide (C.g r (if l = true then b - j else b + j) ≠ C.g r b)) C.nc 1 (C.nc - 1)
def Clo.step (C : Clo) (r x s d : Int) : Int := nsum (fun o => if (o : Int) ≠ x ∧ ((o : Int) - x) - ((o : Int) - x).tdiv s * s = 0 ∧ C.g r o = d then 1 else 0) 0 C.nc
def Clo.wid (C : Clo) (ws : List Int) (r : Int) : Int := nsum (fun x => if 0 ≤ C.k (r * C.nc + x) ∧ C.k (r * C.nc + x) < 4 then ws.getD (C.k (r * C.nc + x)).toNat 0 else 0) 0 C.nc
def Clo.emw (C : Clo) (w h : Nat) : Bool := !nall (fun r => nall (fun x => decide (C.k (r * C.nc + x) ≠ -1)) 0 w) 0 h
section SXH
variable {S : List Int32} {h : sx_H} {K A B c p q : Nat} {ws : List Int} {C : Clo}
theorem m_rep_x (hC : sx_CV h K c p q C) {s : Nat} (hs : 1 ≤ s ∧ s < C.nc) {r : Nat} (hr : r < C.nr) : ∀ (n x : Nat), x + n = C.nc - s →
    sx_Ev S 1 12 [some (.ref c), some (.int (sz s)), some (.int (sz r)), some (.int (sz x))] [] h = if nall (fun x => decide (C.g r x = C.g r ((x : Int) + s))) x n = true then sx_Ev S 1 2 [some (.ref c), some (.int (sz s)), some (.int (sz ((r + 1 : Nat) : Int))), some (.int (sz ((C.nc : Int) - s)))] [] h else some (.inl (some (.int (sz 0))), h) := by
  obtain ⟨f0, f1, f2, f3, f5, f6, f9, f10, fk, i5, i6⟩ := hC.f (S := S)
  obtain ⟨⟨a1, a2⟩, ⟨a3, a4⟩, a5, a6, a7, a8⟩ := hC.1
  have b2 := mulN_bd a4 a2
  have n0 := nb0
  have n1 := nb1
  have hr1 : (r : Int) + 1 = ((r + 1 : Nat) : Int) := by omega
  intro n
  induction n with
  | zero =>
    intro x hx
    rw [h1_12]
    simp (disch := omega) only [q1, f2, hr1, Option.bind_some, sz_lt0, sz_lt, sz_0lt, sz_mul, sz_add, sz_sub, sz_eq0, sz_eq, sz_nat, List.length_map, nb0, nb1, bz_eq0, ↓reduceIte, Int.reduceEq, Int.reduceLT, Int.reduceAdd, Int.reduceSub, Int.reduceMul, Int.reduceNeg]
    rw [if_neg (by omega), show (x : Int) = (C.nc : Int) - s by omega]
    rfl
  | succ n ih =>
    intro x hx
    have hx1 : (x : Int) + 1 = ((x + 1 : Nat) : Int) := by omega
    have g0 := C.g_bd hC.1 r x
    have g1 := C.g_bd hC.1 r ((x : Int) + s)
    rw [h1_12]
    simp (disch := omega) only [q1, f2, fk, m_colourAt hC, hx1, Option.bind_some, sz_lt0, sz_lt, sz_0lt, sz_mul, sz_add, sz_sub, sz_eq0, sz_eq, sz_nat, List.length_map, nb0, nb1, bz_eq0, ↓reduceIte, Int.reduceEq, Int.reduceLT, Int.reduceAdd, Int.reduceSub, Int.reduceMul, Int.reduceNeg]
    rw [if_pos (by omega), nall]
    by_cases e : C.g r x = C.g r ((x : Int) + s)
    · rw [if_pos e, decide_eq_true e, Bool.true_and]
      exact ih (x + 1) (by omega)
    · rw [if_neg e, decide_eq_false e, Bool.false_and, if_neg (by simp)]
theorem m_rep_r (hC : sx_CV h K c p q C) {s : Nat} (hs : 1 ≤ s ∧ s < C.nc) : ∀ (n r : Nat) (l3 : Option Value), r + n = C.nr →
    sx_Ev S 1 2 [some (.ref c), some (.int (sz s)), some (.int (sz r)), l3] [] h = some (.inl (some (.int (sz (bz (nall (fun r => nall (fun x => decide (C.g r x = C.g r ((x : Int) + s))) 0 (C.nc - s)) r n))))), h) := by
  obtain ⟨f0, f1, f2, f3, f5, f6, f9, f10, fk, i5, i6⟩ := hC.f (S := S)
  obtain ⟨⟨a1, a2⟩, ⟨a3, a4⟩, a5, a6, a7, a8⟩ := hC.1
  have b2 := mulN_bd a4 a2
  have n0 := nb0
  have n1 := nb1
  intro n
  induction n with
  | zero =>
    intro r l3 hr
    rw [h1_2]
    simp (disch := omega) only [q1, f3, Option.bind_some, sz_lt0, sz_lt, sz_0lt, sz_mul, sz_add, sz_sub, sz_eq0, sz_eq, sz_nat, List.length_map, nb0, nb1, bz_eq0, ↓reduceIte, Int.reduceEq, Int.reduceLT, Int.reduceAdd, Int.reduceSub, Int.reduceMul, Int.reduceNeg]
    rw [if_neg (by omega)]
    rfl
  | succ n ih =>
    intro r l3 hr
    rw [h1_2]
    simp (disch := omega) only [q1, f3, Option.bind_some, sz_lt0, sz_lt, sz_0lt, sz_mul, sz_add, sz_sub, sz_eq0, sz_eq, sz_nat, List.length_map, nb0, nb1, bz_eq0, ↓reduceIte, Int.reduceEq, Int.reduceLT, Int.reduceAdd, Int.reduceSub, Int.reduceMul, Int.reduceNeg]
    rw [if_pos (by omega)]
    refine Eq.trans (m_rep_x hC hs (by omega) (C.nc - s) 0 (by omega)) ?_
    rw [nall]
    cases nall (fun x => decide (C.g r x = C.g r ((x : Int) + s))) 0 (C.nc - s)
    · rw [if_neg (by simp)]; rfl
    · rw [if_pos rfl, ih (r + 1) _ (by omega)]; rfl
theorem m_rep (hC : sx_CV h K c p q C) {s : Nat} (hs : 1 ≤ s ∧ s < C.nc) : sx_Cl S 1 [.ref c, .int (sz s)] h = some (.inl (some (.int (sz (bz (C.rep s))))), h) := by
  simp (disch := omega) only [c1_q, q1, Option.bind_some, sz_lt0, sz_lt, sz_0lt, sz_mul, sz_add, sz_sub, sz_eq0, sz_eq, sz_nat, List.length_map, nb0, nb1, bz_eq0, ↓reduceIte, Int.reduceEq, Int.reduceLT, Int.reduceAdd, Int.reduceSub, Int.reduceMul, Int.reduceNeg]
  exact m_rep_r hC hs C.nr 0 none (by omega)
theorem m_lrep_l (hC : sx_CV h K c p q C) : ∀ (n s : Nat), s + n = C.nc → 1 ≤ s → sx_Ev S 2 2 [some (.ref c), some (.int (sz s))] [] h = some (.inl (some (.int (sz (nfnd C.rep C.nc s n)))), h) := by
  obtain ⟨f0, f1, f2, f3, f5, f6, f9, f10, fk, i5, i6⟩ := hC.f (S := S)
  obtain ⟨⟨a1, a2⟩, ⟨a3, a4⟩, a5, a6, a7, a8⟩ := hC.1
  have b2 := mulN_bd a4 a2
  have n0 := nb0
  have n1 := nb1
  intro n
  induction n with
  | zero =>
    intro s hs h1
    rw [h2_2]
    simp (disch := omega) only [q2, f2, Option.bind_some, sz_lt0, sz_lt, sz_0lt, sz_mul, sz_add, sz_sub, sz_eq0, sz_eq, sz_nat, List.length_map, nb0, nb1, bz_eq0, ↓reduceIte, Int.reduceEq, Int.reduceLT, Int.reduceAdd, Int.reduceSub, Int.reduceMul, Int.reduceNeg]
    rw [if_neg (by omega)]
    rfl
  | succ n ih =>
    intro s hs h1
    have hs1 : (s : Int) + 1 = ((s + 1 : Nat) : Int) := by omega
    have hrp := m_rep (S := S) hC (s := s) ⟨h1, by omega⟩
    rw [h2_2]
    simp (disch := omega) only [q2, f2, hrp, hs1, Option.bind_some, sz_lt0, sz_lt, sz_0lt, sz_mul, sz_add, sz_sub, sz_eq0, sz_eq, sz_nat, List.length_map, nb0, nb1, bz_eq0, ↓reduceIte, Int.reduceEq, Int.reduceLT, Int.reduceAdd, Int.reduceSub, Int.reduceMul, Int.reduceNeg]
    rw [if_pos (by omega), nfnd]
    cases C.rep s
    · rw [if_pos rfl, if_neg (by simp)]
      exact ih (s + 1) (by omega) (by omega)
    · rw [if_neg (by simp), if_pos rfl]
theorem m_lrep (hC : sx_CV h K c p q C) : sx_Cl S 2 [.ref c] h = some (.inl (some (.int (sz C.lrep))), h) := by
  obtain ⟨f0, f1, f2, f3, f5, f6, f9, f10, fk, i5, i6⟩ := hC.f (S := S)
  obtain ⟨⟨a1, a2⟩, ⟨a3, a4⟩, a5, a6, a7, a8⟩ := hC.1
  have b2 := mulN_bd a4 a2
  have n0 := nb0
  have n1 := nb1
  simp (disch := omega) only [c2_q, q2, Option.bind_some, sz_lt0, sz_lt, sz_0lt, sz_mul, sz_add, sz_sub, sz_eq0, sz_eq, sz_nat, List.length_map, nb0, nb1, bz_eq0, ↓reduceIte, Int.reduceEq, Int.reduceLT, Int.reduceAdd, Int.reduceSub, Int.reduceMul, Int.reduceNeg]
  exact m_lrep_l hC (C.nc - 1) 1 (by omega) (by omega)
theorem m_mir_x (hC : sx_CV h K c p q C) {r : Nat} (hr : r < C.nr) : ∀ (n x : Nat), x + n = C.nc →
    sx_Ev S 3 12 [some (.ref c), some (.int (sz r)), some (.int (sz x))] [] h = if nall (fun x => decide (C.g r x = C.g r ((C.nc : Int) - 1 - x))) x n = true then sx_Ev S 3 2 [some (.ref c), some (.int (sz ((r + 1 : Nat) : Int))), some (.int (sz (C.nc : Int)))] [] h else some (.inl (some (.int (sz 0))), h) := by
  obtain ⟨f0, f1, f2, f3, f5, f6, f9, f10, fk, i5, i6⟩ := hC.f (S := S)
  obtain ⟨⟨a1, a2⟩, ⟨a3, a4⟩, a5, a6, a7, a8⟩ := hC.1
  have b2 := mulN_bd a4 a2
  have n0 := nb0
  have n1 := nb1
  have hr1 : (r : Int) + 1 = ((r + 1 : Nat) : Int) := by omega
  intro n
  induction n with
  | zero =>
    intro x hx
    rw [h3_12]
    simp (disch := omega) only [q3, f2, hr1, Option.bind_some, sz_lt0, sz_lt, sz_0lt, sz_mul, sz_add, sz_sub, sz_eq0, sz_eq, sz_nat, List.length_map, nb0, nb1, bz_eq0, ↓reduceIte, Int.reduceEq, Int.reduceLT, Int.reduceAdd, Int.reduceSub, Int.reduceMul, Int.reduceNeg]
    rw [if_neg (by omega), show x = C.nc by omega]
    rfl
  | succ n ih =>
    intro x hx
    have hx1 : (x : Int) + 1 = ((x + 1 : Nat) : Int) := by omega
    have g0 := C.g_bd hC.1 r x
    have g1 := C.g_bd hC.1 r ((C.nc : Int) - 1 - x)
    rw [h3_12]
    simp (disch := omega) only [q3, f2, fk, m_colourAt hC, hx1, Option.bind_some, sz_lt0, sz_lt, sz_0lt, sz_mul, sz_add, sz_sub, sz_eq0, sz_eq, sz_nat, List.length_map, nb0, nb1, bz_eq0, ↓reduceIte, Int.reduceEq, Int.reduceLT, Int.reduceAdd, Int.reduceSub, Int.reduceMul, Int.reduceNeg]
    rw [if_pos (by omega), nall]
    by_cases e : C.g r x = C.g r ((C.nc : Int) - 1 - x)
    · rw [if_pos e, decide_eq_true e, Bool.true_and]
      exact ih (x + 1) (by omega)
    · rw [if_neg e, decide_eq_false e, Bool.false_and, if_neg (by simp)]
theorem m_mir_r (hC : sx_CV h K c p q C) : ∀ (n r : Nat) (l2 : Option Value), r + n = C.nr →
    sx_Ev S 3 2 [some (.ref c), some (.int (sz r)), l2] [] h = some (.inl (some (.int (sz (bz (nall (fun r => nall (fun x => decide (C.g r x = C.g r ((C.nc : Int) - 1 - x))) 0 C.nc) r n))))), h) := by
  obtain ⟨f0, f1, f2, f3, f5, f6, f9, f10, fk, i5, i6⟩ := hC.f (S := S)
  obtain ⟨⟨a1, a2⟩, ⟨a3, a4⟩, a5, a6, a7, a8⟩ := hC.1
  have b2 := mulN_bd a4 a2
  have n0 := nb0
  have n1 := nb1
  intro n
  induction n with
  | zero =>
    intro r l2 hr
    rw [h3_2]
    simp (disch := omega) only [q3, f3, Option.bind_some, sz_lt0, sz_lt, sz_0lt, sz_mul, sz_add, sz_sub, sz_eq0, sz_eq, sz_nat, List.length_map, nb0, nb1, bz_eq0, ↓reduceIte, Int.reduceEq, Int.reduceLT, Int.reduceAdd, Int.reduceSub, Int.reduceMul, Int.reduceNeg]
    rw [if_neg (by omega)]
    rfl
  | succ n ih =>
    intro r l2 hr
    rw [h3_2]
    simp (disch := omega) only [q3, f3, Option.bind_some, sz_lt0, sz_lt, sz_0lt, sz_mul, sz_add, sz_sub, sz_eq0, sz_eq, sz_nat, List.length_map, nb0, nb1, bz_eq0, ↓reduceIte, Int.reduceEq, Int.reduceLT, Int.reduceAdd, Int.reduceSub, Int.reduceMul, Int.reduceNeg]
    rw [if_pos (by omega)]
    refine Eq.trans (m_mir_x hC (by omega) C.nc 0 (by omega)) ?_
    rw [nall]
    cases nall (fun x => decide (C.g r x = C.g r ((C.nc : Int) - 1 - x))) 0 C.nc
    · rw [if_neg (by simp)]; rfl
    · rw [if_pos rfl, ih (r + 1) _ (by omega)]; rfl
theorem m_mir (hC : sx_CV h K c p q C) : sx_Cl S 3 [.ref c] h = some (.inl (some (.int (sz (bz C.mir)))), h) := by
  simp (disch := omega) only [c3_q, q3, Option.bind_some, sz_lt0, sz_lt, sz_0lt, sz_mul, sz_add, sz_sub, sz_eq0, sz_eq, sz_nat, List.length_map, nb0, nb1, bz_eq0, ↓reduceIte, Int.reduceEq, Int.reduceLT, Int.reduceAdd, Int.reduceSub, Int.reduceMul, Int.reduceNeg]
  exact m_mir_r hC C.nr 0 none (by omega)
theorem m_beg (hC : sx_CV h K c p q C) {r x : Int} (l : Bool) (hr : -900 ≤ r ∧ r ≤ 900) (hx : -900 ≤ x ∧ x ≤ 900) : sx_Cl S 4 [.ref c, .int (sz r), .int (sz x), .int (sz (bz l))] h = some (.inl (some (.int (sz (bz (C.beg r x l))))), h) := by
  obtain ⟨f0, f1, f2, f3, f5, f6, f9, f10, fk, i5, i6⟩ := hC.f (S := S)
  obtain ⟨⟨a1, a2⟩, ⟨a3, a4⟩, a5, a6, a7, a8⟩ := hC.1
  have b2 := mulN_bd a4 a2
  have n0 := nb0
  have n1 := nb1
  have g0 := C.g_bd hC.1 r x
  have g1 := C.g_bd hC.1 r (x + 1)
  have g2 := C.g_bd hC.1 r (x - 1)
  simp (disch := omega) only [c4_q, q4, fk, m_colourAt hC, Option.bind_some, sz_lt0, sz_lt, sz_0lt, sz_mul, sz_add, sz_sub, sz_eq0, sz_eq, sz_nat, List.length_map, nb0, nb1, bz_eq0, ↓reduceIte, Int.reduceEq, Int.reduceLT, Int.reduceAdd, Int.reduceSub, Int.reduceMul, Int.reduceNeg]
  unfold Clo.beg
  cases l
  · rw [if_neg (show ¬ (false = true) by simp)]
    repeat' split
    all_goals first
      | (exfalso; omega)
      | contradiction
      | (rw [decide_eq_true (by omega)]; rfl)
      | (rw [decide_eq_false (by omega)]; rfl)
  · rw [if_pos (show true = true from rfl)]
    repeat' split
    all_goals first
      | (exfalso; omega)
      | contradiction
      | (rw [decide_eq_true (by omega)]; rfl)
      | (rw [decide_eq_false (by omega)]; rfl)
theorem m_runs_l (hC : sx_CV h K c p q C) {r : Int} (hr : -900 ≤ r ∧ r ≤ 900) : ∀ (n x : Nat) (t : Int), x + n = C.nc → 0 ≤ t ∧ t ≤ 1000 - n →
    sx_Ev S 5 4 [some (.ref c), some (.int (sz r)), some (.int (sz t)), some (.int (sz x))] [] h = some (.inl (some (.int (sz (t + nsum (fun x => bz (C.beg r x false)) x n)))), h) := by
  obtain ⟨f0, f1, f2, f3, f5, f6, f9, f10, fk, i5, i6⟩ := hC.f (S := S)
  obtain ⟨⟨a1, a2⟩, ⟨a3, a4⟩, a5, a6, a7, a8⟩ := hC.1
  have b2 := mulN_bd a4 a2
  have n0 := nb0
  have n1 := nb1
  intro n
  induction n with
  | zero =>
    intro x t hx ht
    rw [h5_4]
    simp (disch := omega) only [q5, f2, Option.bind_some, sz_lt0, sz_lt, sz_0lt, sz_mul, sz_add, sz_sub, sz_eq0, sz_eq, sz_nat, List.length_map, nb0, nb1, bz_eq0, ↓reduceIte, Int.reduceEq, Int.reduceLT, Int.reduceAdd, Int.reduceSub, Int.reduceMul, Int.reduceNeg]
    rw [if_neg (by omega)]
    simp [nsum]
  | succ n ih =>
    intro x t hx ht
    have hx1 : (x : Int) + 1 = ((x + 1 : Nat) : Int) := by omega
    have hb := m_beg (S := S) hC (r := r) (x := x) false hr (by omega)
    rw [bz_f] at hb
    rw [h5_4]
    simp (disch := omega) only [q5, f2, hb, hx1, Option.bind_some, sz_lt0, sz_lt, sz_0lt, sz_mul, sz_add, sz_sub, sz_eq0, sz_eq, sz_nat, List.length_map, nb0, nb1, bz_eq0, ↓reduceIte, Int.reduceEq, Int.reduceLT, Int.reduceAdd, Int.reduceSub, Int.reduceMul, Int.reduceNeg]
    rw [if_pos (by omega), nsum]
    cases C.beg r x false
    · rw [if_pos rfl, ih (x + 1) t (by omega) (by omega), bz_f, Int.zero_add]
    · rw [if_neg (by simp), ih (x + 1) (t + 1) (by omega) (by omega), bz_t, Int.add_assoc]
theorem m_runs (hC : sx_CV h K c p q C) {r : Int} (hr : -900 ≤ r ∧ r ≤ 900) : sx_Cl S 5 [.ref c, .int (sz r)] h = some (.inl (some (.int (sz (C.runs r)))), h) := by
  obtain ⟨f0, f1, f2, f3, f5, f6, f9, f10, fk, i5, i6⟩ := hC.f (S := S)
  obtain ⟨⟨a1, a2⟩, ⟨a3, a4⟩, a5, a6, a7, a8⟩ := hC.1
  have b2 := mulN_bd a4 a2
  have n0 := nb0
  have n1 := nb1
  simp (disch := omega) only [c5_q, q5, Option.bind_some, sz_lt0, sz_lt, sz_0lt, sz_mul, sz_add, sz_sub, sz_eq0, sz_eq, sz_nat, List.length_map, nb0, nb1, bz_eq0, ↓reduceIte, Int.reduceEq, Int.reduceLT, Int.reduceAdd, Int.reduceSub, Int.reduceMul, Int.reduceNeg]
  refine (m_runs_l hC hr C.nc 0 0 (by omega) (by omega)).trans ?_
  rw [Int.zero_add]
  rfl
theorem m_frun_l (hC : sx_CV h K c p q C) {r k : Int} (l : Bool) (hr : -900 ≤ r ∧ r ≤ 900) (hk : -1000 ≤ k ∧ k ≤ 1000) : ∀ (n i : Nat) (t : Int) (l6 : Option Value), i + n = C.nc → 0 ≤ t ∧ t ≤ 1000 - n →
    sx_Ev S 6 6 [some (.ref c), some (.int (sz r)), some (.int (sz k)), some (.int (sz (bz l))), some (.int (sz t)), some (.int (sz i)), l6] [] h = some (.inl (some (.int (sz (nth (fun i => C.beg r (C.col l i) l) (C.col l) (k - t) i n)))), h) := by
  obtain ⟨f0, f1, f2, f3, f5, f6, f9, f10, fk, i5, i6⟩ := hC.f (S := S)
  obtain ⟨⟨a1, a2⟩, ⟨a3, a4⟩, a5, a6, a7, a8⟩ := hC.1
  have b2 := mulN_bd a4 a2
  have n0 := nb0
  have n1 := nb1
  intro n
  induction n with
  | zero =>
    intro i t l6 hi ht
    rw [h6_6]
    simp (disch := omega) only [q6, f2, Option.bind_some, sz_lt0, sz_lt, sz_0lt, sz_mul, sz_add, sz_sub, sz_eq0, sz_eq, sz_nat, List.length_map, nb0, nb1, bz_eq0, ↓reduceIte, Int.reduceEq, Int.reduceLT, Int.reduceAdd, Int.reduceSub, Int.reduceMul, Int.reduceNeg]
    rw [if_neg (by omega)]
    rfl
  | succ n ih =>
    intro i t l6 hi ht
    have hi1 : (i : Int) + 1 = ((i + 1 : Nat) : Int) := by omega
    have hcol : C.col l i = if l = true then (C.nc : Int) - 1 - i else i := rfl
    have hcb : 0 ≤ C.col l i ∧ C.col l i < C.nc := by rw [hcol]; split <;> omega
    have hb := m_beg (S := S) hC (r := r) (x := C.col l i) l hr (by omega)
    have hcol2 : l = false → C.col l i = i := fun e => by rw [hcol, if_neg (by rw [e]; simp)]
    have hcol3 : ¬ l = false → C.col l i = (C.nc : Int) - 1 - i := fun e => by rw [hcol, if_pos (by simpa using e)]
    have ih2 := ih (i + 1) t (some (.int (sz (C.col l i)))) (by omega) (by omega)
    have ih3 := ih (i + 1) (t + 1) (some (.int (sz (C.col l i)))) (by omega) (by omega)
    have key : ∀ y : Int, y = C.col l i → sx_Ev S 6 35 [some (.ref c), some (.int (sz r)), some (.int (sz k)), some (.int (sz (bz l))), some (.int (sz t)), some (.int (sz i)), some (.int (sz y))] [] h = some (.inl (some (.int (sz (nth (fun i => C.beg r (C.col l i) l) (C.col l) (k - t) i (n + 1))))), h) := by
      intro y hy
      subst hy
      simp (disch := omega) only [q6, hb, hi1, Option.bind_some, sz_lt0, sz_lt, sz_0lt, sz_mul, sz_add, sz_sub, sz_eq0, sz_eq, sz_nat, List.length_map, nb0, nb1, bz_eq0, ↓reduceIte, Int.reduceEq, Int.reduceLT, Int.reduceAdd, Int.reduceSub, Int.reduceMul, Int.reduceNeg]
      rw [nth]
      cases C.beg r (C.col l i) l
      · rw [if_pos rfl, if_neg (by simp)]
        exact ih2
      · rw [if_neg (by simp), if_pos rfl]
        by_cases e : t = k
        · rw [if_pos e, if_pos (by omega)]
        · rw [if_neg e, if_neg (by omega), ih3, show k - (t + 1) = k - t - 1 by omega]
    rw [h6_6]
    by_cases el : l = false
    · have := key i (hcol2 el).symm
      simp (disch := omega) only [q6, f2, Option.bind_some, sz_lt, bz_eq0, if_pos el, if_pos (show (i : Int) < C.nc by omega)] at this ⊢
      exact this
    · have := key ((C.nc : Int) - 1 - i) (hcol3 el).symm
      simp (disch := omega) only [q6, f2, Option.bind_some, sz_lt, bz_eq0, if_neg el, if_pos (show (i : Int) < C.nc by omega), sz_sub] at this ⊢
      exact this
theorem m_frun (hC : sx_CV h K c p q C) {r k : Int} (l : Bool) (hr : -900 ≤ r ∧ r ≤ 900) (hk : -1000 ≤ k ∧ k ≤ 1000) : sx_Cl S 6 [.ref c, .int (sz r), .int (sz k), .int (sz (bz l))] h = some (.inl (some (.int (sz (C.frun r k l)))), h) := by
  obtain ⟨f0, f1, f2, f3, f5, f6, f9, f10, fk, i5, i6⟩ := hC.f (S := S)
  obtain ⟨⟨a1, a2⟩, ⟨a3, a4⟩, a5, a6, a7, a8⟩ := hC.1
  have b2 := mulN_bd a4 a2
  have n0 := nb0
  have n1 := nb1
  simp (disch := omega) only [c6_q, q6, Option.bind_some, sz_lt0, sz_lt, sz_0lt, sz_mul, sz_add, sz_sub, sz_eq0, sz_eq, sz_nat, List.length_map, nb0, nb1, bz_eq0, ↓reduceIte, Int.reduceEq, Int.reduceLT, Int.reduceAdd, Int.reduceSub, Int.reduceMul, Int.reduceNeg]
  refine (m_frun_l hC l hr hk C.nc 0 0 none (by omega) (by omega)).trans ?_
  rw [Int.sub_zero]
  rfl
end SXH
