/-! THE CALLS of the workshop that the law makes, second part -/
theorem nth_spec (f : Nat → Bool) (w : Nat → Int) : ∀ (n i : Nat) (k : Int), nth f w k i n = -1 ∨ ∃ j, i ≤ j ∧ j < i + n ∧ f j = true ∧ nth f w k i n = w j := by
  intro n
  induction n with
  | zero => intro i k; exact Or.inl rfl
  | succ n ih =>
    intro i k
    rw [nth]
    have up : ∀ k, nth f w k (i + 1) n = -1 ∨ ∃ j, i ≤ j ∧ j < i + (n + 1) ∧ f j = true ∧ nth f w k (i + 1) n = w j := fun k => by
      rcases ih (i + 1) k with q | ⟨j, j1, j2, j3, j4⟩
      · exact Or.inl q
      · exact Or.inr ⟨j, by omega, by omega, j3, j4⟩
    by_cases e : f i = true
    · rw [if_pos e]
      by_cases e2 : k = 0
      · rw [if_pos e2]
        exact Or.inr ⟨i, by omega, by omega, e, rfl⟩
      · rw [if_neg e2]; exact up _
    · rw [if_neg e]; exact up _
theorem Clo.frun_bd (C : Clo) (r k : Int) (l : Bool) : C.frun r k l = -1 ∨ (0 ≤ C.frun r k l ∧ C.frun r k l < C.nc ∧ C.g r (C.frun r k l) ≠ -1) := by
  rcases nth_spec (fun i => C.beg r (C.col l i) l) (C.col l) C.nc 0 k with q | ⟨j, j1, j2, j3, j4⟩
  · exact Or.inl q
  · refine Or.inr ?_
    have e : C.frun r k l = C.col l j := j4
    rw [e]
    have hb : C.g r (C.col l j) ≠ -1 := by
      have j3 : C.beg r (C.col l j) l = true := j3
      unfold Clo.beg at j3
      exact (of_decide_eq_true j3).1
    refine ⟨?_, ?_, hb⟩
    · unfold Clo.col; split <;> omega
    · unfold Clo.col; split <;> omega
theorem nbest_bd (f : Nat → Int) : ∀ (n i : Nat) (b m : Int), -1 ≤ b ∧ b ≤ i → -1 ≤ nbest f b m i n ∧ nbest f b m i n ≤ i + n := by
  intro n
  induction n with
  | zero => intro i b m hb; exact ⟨hb.1, by rw [nbest]; omega⟩
  | succ n ih =>
    intro i b m hb
    rw [nbest]
    split
    · have := ih (i + 1) i (f i) (by omega); omega
    · have := ih (i + 1) b m (by omega); omega
theorem Clo.ems_len (C : Clo) : ∀ (n i : Nat), ((C.emf i n).length : Int) = nsum (fun j => if C.k j = -1 then 1 else 0) i n := by
  intro n
  induction n with
  | zero => intro i; rfl
  | succ n ih =>
    intro i
    rw [Clo.emf, nsum]
    by_cases e : C.k i = -1
    · rw [if_pos e, if_pos e, List.length_cons, ← ih (i + 1)]; omega
    · rw [if_neg e, if_neg e, ← ih (i + 1)]; omega
theorem Clo.ems_many (C : Clo) : (C.ems.length : Int) = C.many (-1) := C.ems_len C.ks.length 0
section SXC2
variable {S : List Int32} {h : sx_H} {n : Nat} {tl : Int} {ws : List Int} {L : List (Nat × Clo)} {c : Nat} {C : Clo} {i : Int}
theorem w_motif (hB : sx_BV h 4 tl ws L) (hi : 0 ≤ i ∧ L[i.toNat]? = some (c, C)) {w v : Nat} {s : Int} (hw : 1 ≤ w ∧ w ≤ C.nc) (hv : 1 ≤ v ∧ v ≤ C.nr) (hs : -12 ≤ s ∧ s ≤ 12) (he : C.emw w v = false) :
    ∃ h', sx_Cl S 103 [.ref 2, .int (sz i), .int (sz w), .int (sz v), .int (sz s)] h = some (.inl (some (.int (sz (C.motn w v s)))), h') ∧ sx_BV h' 4 tl ws (L.set i.toNat (c, C.mot w v s)) ∧ sx_gr (fun a => a = c + 3 ∨ a = c + 4) 0 0 h h' := by
  obtain ⟨f0, f1, f3, f4, f5, f6, f8, f10, f11, k2, k3, k11, k13, k15, hl⟩ := hB.g
  have hc := (hB.cl hi).1
  have hC := (hB.cl hi).2
  have f := hC.f (S := S)
  have g2 := f.2.2.1
  have g3 := f.2.2.2.1
  have fk := f.2.2.2.2.2.2.2.2.1
  obtain ⟨⟨a1, a2⟩, ⟨a3, a4⟩, a5, a6, a7, a8⟩ := hC.1
  have e1 := o_clothOf (S := S) hB hi
  have e2 := o_range (S := S) (h := h) (v := (w : Int)) (a := 1) (b := C.nc) (by omega) (by omega) (by omega)
  have e3 := o_range (S := S) (h := h) (v := (v : Int)) (a := 1) (b := C.nr) (by omega) (by omega) (by omega)
  have e4 := o_range (S := S) (h := h) (v := s) (a := -12) (b := 12) (by omega) (by omega) (by omega)
  have e5 := o_drawn (S := S) hC
  have e6 := m_emw (S := S) hC (w := w) (v := v) (by omega) (by omega)
  rw [he] at e6
  obtain ⟨h', p1, p2, p3, p4⟩ := m_spread (S := S) (by omega) hB.2.2.1.kv hC hw hv hs
  refine ⟨h', ?_, hB.upd hi.2 p4.1 (fun a q => by omega) ?_ p3, p4⟩
  · have e : sx_Cl S 76 [.ref 2, .int (sz i), .int (sz w), .int (sz v), .int (sz s)] h = some (.inl (some (.int (sz (C.motn w v s)))), h') := by
      simp (disch := omega) only [c76_q, q76, e1, g2, g3, e2, e3, e4, e5, e6, p1, Option.bind_some, sz_lt0, sz_lt, sz_0lt, sz_mul, sz_add, sz_sub, sz_eq0, sz_eq, sz_nat, List.length_map, nb0, nb1, bz_eq0, ↓reduceIte, Int.reduceEq, Int.reduceLT, Int.reduceAdd, Int.reduceSub, Int.reduceMul, Int.reduceNeg]
    simp (disch := omega) only [c103_q, q103, e, Option.bind_some, sz_lt0, sz_lt, sz_0lt, sz_mul, sz_add, sz_sub, sz_eq0, sz_eq, sz_nat, List.length_map, nb0, nb1, bz_eq0, ↓reduceIte, Int.reduceEq, Int.reduceLT, Int.reduceAdd, Int.reduceSub, Int.reduceMul, Int.reduceNeg]
  · obtain ⟨m, es, hF⟩ := hB.2.2.2.2.2.1
    exact ⟨m, es, hF.kp p4.1 (by omega) (by omega)⟩
theorem w_motif_em (hB : sx_BV h 4 tl ws L) (hi : 0 ≤ i ∧ L[i.toNat]? = some (c, C)) {w v : Nat} {s : Int} (hw : 1 ≤ w ∧ w ≤ C.nc) (hv : 1 ≤ v ∧ v ≤ C.nr) (hs : -12 ≤ s ∧ s ≤ 12) (he : C.emw w v = true) :
    sx_Cl S 103 [.ref 2, .int (sz i), .int (sz w), .int (sz v), .int (sz s)] h = some (.inl (some (.int (sz (-900003)))), sx_push h none 6) := by
  obtain ⟨f0, f1, f3, f4, f5, f6, f8, f10, f11, k2, k3, k11, k13, k15, hl⟩ := hB.g
  have hC := (hB.cl hi).2
  have f := hC.f (S := S)
  have g2 := f.2.2.1
  have g3 := f.2.2.2.1
  have fk := f.2.2.2.2.2.2.2.2.1
  obtain ⟨⟨a1, a2⟩, ⟨a3, a4⟩, a5, a6, a7, a8⟩ := hC.1
  have e1 := o_clothOf (S := S) hB hi
  have e2 := o_range (S := S) (h := h) (v := (w : Int)) (a := 1) (b := C.nc) (by omega) (by omega) (by omega)
  have e3 := o_range (S := S) (h := h) (v := (v : Int)) (a := 1) (b := C.nr) (by omega) (by omega) (by omega)
  have e4 := o_range (S := S) (h := h) (v := s) (a := -12) (b := 12) (by omega) (by omega) (by omega)
  have e5 := o_drawn (S := S) hC
  have e6 := m_emw (S := S) hC (w := w) (v := v) (by omega) (by omega)
  rw [he] at e6
  have e : sx_Cl S 76 [.ref 2, .int (sz i), .int (sz w), .int (sz v), .int (sz s)] h = some (.inr 3, sx_push h none 6) := by
    simp (disch := omega) only [c76_q, q76, e1, g2, g3, e2, e3, e4, e5, e6, Option.bind_some, sz_lt0, sz_lt, sz_0lt, sz_mul, sz_add, sz_sub, sz_eq0, sz_eq, sz_nat, List.length_map, nb0, nb1, bz_eq0, ↓reduceIte, Int.reduceEq, Int.reduceLT, Int.reduceAdd, Int.reduceSub, Int.reduceMul, Int.reduceNeg]
    rw [if_neg (by simp)]
  simp (disch := omega) only [c103_q, q103, e, Option.bind_some, sz_lt0, sz_lt, sz_0lt, sz_mul, sz_add, sz_sub, sz_eq0, sz_eq, sz_nat, List.length_map, nb0, nb1, bz_eq0, ↓reduceIte, Int.reduceEq, Int.reduceLT, Int.reduceAdd, Int.reduceSub, Int.reduceMul, Int.reduceNeg]
theorem w_motif_wide (hB : sx_BV h 4 tl ws L) (hi : 0 ≤ i ∧ L[i.toNat]? = some (c, C)) {w v s : Int} (hw : C.nc < w ∧ w ≤ 1000) :
    sx_Cl S 103 [.ref 2, .int (sz i), .int (sz w), .int (sz v), .int (sz s)] h = some (.inl (some (.int (sz (-900002)))), sx_push h none 6) := by
  obtain ⟨f0, f1, f3, f4, f5, f6, f8, f10, f11, k2, k3, k11, k13, k15, hl⟩ := hB.g
  have hC := (hB.cl hi).2
  have f := hC.f (S := S)
  have g2 := f.2.2.1
  have fk := f.2.2.2.2.2.2.2.2.1
  obtain ⟨⟨a1, a2⟩, ⟨a3, a4⟩, a5, a6, a7, a8⟩ := hC.1
  have e1 := o_clothOf (S := S) hB hi
  have e2 := o_range_no (S := S) (h := h) (v := w) (a := 1) (b := C.nc) (by omega) (by omega)
  have e : sx_Cl S 76 [.ref 2, .int (sz i), .int (sz w), .int (sz v), .int (sz s)] h = some (.inr 0, sx_push h none 6) := by
    simp (disch := omega) only [c76_q, q76, e1, g2, e2, Option.bind_some, sz_lt0, sz_lt, sz_0lt, sz_mul, sz_add, sz_sub, sz_eq0, sz_eq, sz_nat, List.length_map, nb0, nb1, bz_eq0, ↓reduceIte, Int.reduceEq, Int.reduceLT, Int.reduceAdd, Int.reduceSub, Int.reduceMul, Int.reduceNeg]
  simp (disch := omega) only [c103_q, q103, e, Option.bind_some, sz_lt0, sz_lt, sz_0lt, sz_mul, sz_add, sz_sub, sz_eq0, sz_eq, sz_nat, List.length_map, nb0, nb1, bz_eq0, ↓reduceIte, Int.reduceEq, Int.reduceLT, Int.reduceAdd, Int.reduceSub, Int.reduceMul, Int.reduceNeg]
theorem w_motif_lean (hB : sx_BV h 4 tl ws L) (hi : 0 ≤ i ∧ L[i.toNat]? = some (c, C)) :
    sx_Cl S 103 [.ref 2, .int (sz i), .int (sz 1), .int (sz 1), .int (sz 13)] h = some (.inl (some (.int (sz (-900002)))), sx_push h none 6) := by
  obtain ⟨f0, f1, f3, f4, f5, f6, f8, f10, f11, k2, k3, k11, k13, k15, hl⟩ := hB.g
  have hC := (hB.cl hi).2
  have f := hC.f (S := S)
  have g2 := f.2.2.1
  have g3 := f.2.2.2.1
  have fk := f.2.2.2.2.2.2.2.2.1
  obtain ⟨⟨a1, a2⟩, ⟨a3, a4⟩, a5, a6, a7, a8⟩ := hC.1
  have e1 := o_clothOf (S := S) hB hi
  have e2 := o_range (S := S) (h := h) (v := 1) (a := 1) (b := C.nc) (by omega) (by omega) (by omega)
  have e3 := o_range (S := S) (h := h) (v := 1) (a := 1) (b := C.nr) (by omega) (by omega) (by omega)
  have e4 := o_range_no (S := S) (h := h) (v := 13) (a := -12) (b := 12) (by omega) (by omega)
  have e : sx_Cl S 76 [.ref 2, .int (sz i), .int (sz 1), .int (sz 1), .int (sz 13)] h = some (.inr 0, sx_push h none 6) := by
    simp (disch := omega) only [c76_q, q76, e1, g2, g3, e2, e3, e4, Option.bind_some, sz_lt0, sz_lt, sz_0lt, sz_mul, sz_add, sz_sub, sz_eq0, sz_eq, sz_nat, List.length_map, nb0, nb1, bz_eq0, ↓reduceIte, Int.reduceEq, Int.reduceLT, Int.reduceAdd, Int.reduceSub, Int.reduceMul, Int.reduceNeg]
  simp (disch := omega) only [c103_q, q103, e, Option.bind_some, sz_lt0, sz_lt, sz_0lt, sz_mul, sz_add, sz_sub, sz_eq0, sz_eq, sz_nat, List.length_map, nb0, nb1, bz_eq0, ↓reduceIte, Int.reduceEq, Int.reduceLT, Int.reduceAdd, Int.reduceSub, Int.reduceMul, Int.reduceNeg]
theorem o_fillable (hB : sx_BV h 4 tl ws L) {p q : Nat} (hC : sx_CV h 3 c p q C) {ch : Int} (hch : 1 ≤ ch ∧ ch ≤ 4) (hm : C.many (-1) ≤ 6) : sx_Cl S 79 [.ref 2, .ref c, .int (sz ch)] h = some (.inl none, h) := by
  obtain ⟨f0, f1, f3, f4, f5, f6, f8, f10, f11, k2, k3, k11, k13, k15, hl⟩ := hB.g
  have fk := (hC.f (S := S)).2.2.2.2.2.2.2.2.1
  have e1 := o_range (S := S) (h := h) (v := ch) (a := 1) (b := 4) (by omega) (by omega) (by omega)
  have e2 := o_drawn (S := S) hC
  have e3 := m_countOf (S := S) hC (k := -1) (by omega)
  have hb := Clo.many_bd hC.1 (-1)
  have g5 := sx_fld_of (f := 5) hB.2.2.1.1 rfl
  have e4 : sx_Cl S 53 [.ref 3] h = some (.inl (some (.int (sz 4))), h) := by
    simp (disch := omega) only [c53_q, q53, g5, Option.bind_some, sz_lt0, sz_lt, sz_0lt, sz_mul, sz_add, sz_sub, sz_eq0, sz_eq, sz_nat, List.length_map, nb0, nb1, bz_eq0, ↓reduceIte, Int.reduceEq, Int.reduceLT, Int.reduceAdd, Int.reduceSub, Int.reduceMul, Int.reduceNeg]
    rfl
  simp (disch := omega) only [c79_q, q79, f0, e1, e2, e3, e4, Option.bind_some, sz_lt0, sz_lt, sz_0lt, sz_mul, sz_add, sz_sub, sz_eq0, sz_eq, sz_nat, List.length_map, nb0, nb1, bz_eq0, ↓reduceIte, Int.reduceEq, Int.reduceLT, Int.reduceAdd, Int.reduceSub, Int.reduceMul, Int.reduceNeg]
  rw [if_neg (by omega), if_neg (by omega)]
theorem o_fillable_many (hB : sx_BV h 4 tl ws L) {p q : Nat} (hC : sx_CV h 3 c p q C) {ch : Int} (hch : 1 ≤ ch ∧ ch ≤ 4) (hm : 6 < C.many (-1)) : sx_Cl S 79 [.ref 2, .ref c, .int (sz ch)] h = some (.inr 3, sx_push h none 6) := by
  obtain ⟨f0, f1, f3, f4, f5, f6, f8, f10, f11, k2, k3, k11, k13, k15, hl⟩ := hB.g
  have fk := (hC.f (S := S)).2.2.2.2.2.2.2.2.1
  have e1 := o_range (S := S) (h := h) (v := ch) (a := 1) (b := 4) (by omega) (by omega) (by omega)
  have e2 := o_drawn (S := S) hC
  have e3 := m_countOf (S := S) hC (k := -1) (by omega)
  have hb := Clo.many_bd hC.1 (-1)
  simp (disch := omega) only [c79_q, q79, f0, e1, e2, e3, Option.bind_some, sz_lt0, sz_lt, sz_0lt, sz_mul, sz_add, sz_sub, sz_eq0, sz_eq, sz_nat, List.length_map, nb0, nb1, bz_eq0, ↓reduceIte, Int.reduceEq, Int.reduceLT, Int.reduceAdd, Int.reduceSub, Int.reduceMul, Int.reduceNeg]
  rw [if_pos (by omega)]
theorem o_fillable_no (hB : sx_BV h 4 tl ws L) {ch : Int} (hch : 4 < ch ∧ ch ≤ 1000) : sx_Cl S 79 [.ref 2, .ref c, .int (sz ch)] h = some (.inr 0, sx_push h none 6) := by
  have e1 := o_range_no (S := S) (h := h) (v := ch) (a := 1) (b := 4) (by omega) (by omega)
  simp (disch := omega) only [c79_q, q79, e1, Option.bind_some, sz_lt0, sz_lt, sz_0lt, sz_mul, sz_add, sz_sub, sz_eq0, sz_eq, sz_nat, List.length_map, nb0, nb1, bz_eq0, ↓reduceIte, Int.reduceEq, Int.reduceLT, Int.reduceAdd, Int.reduceSub, Int.reduceMul, Int.reduceNeg]
theorem w_ways (hB : sx_BV h 4 tl ws L) (hi : 0 ≤ i ∧ L[i.toNat]? = some (c, C)) {ch : Nat} (hch : 1 ≤ ch ∧ ch ≤ 4) (hm : C.many (-1) ≤ 6) :
    ∃ h', sx_Cl S 106 [.ref 2, .int (sz i), .int (sz ch)] h = some (.inl (some (.int (sz (C.waysN ch)))), h') ∧ sx_BV h' 4 tl ws (L.set i.toNat (c, C)) ∧ sx_gr (fun a => (a = c + 3 ∨ a = c + 4) ∨ a = 15 ∨ a = 16) 0 0 h h' := by
  obtain ⟨f0, f1, f3, f4, f5, f6, f8, f10, f11, k2, k3, k11, k13, k15, hl⟩ := hB.g
  have hc := (hB.cl hi).1
  have hC := (hB.cl hi).2
  obtain ⟨m, es, hF⟩ := hB.2.2.2.2.2.1
  have e1 := o_clothOf (S := S) hB hi
  have e2 := o_fillable (S := S) hB hC (ch := (ch : Int)) (by omega) hm
  have hem := C.ems_many
  obtain ⟨h', n', es', p1, ⟨p2, p3, p4⟩, p5, p6, p7⟩ := m_tryWays (S := S) hch (by omega) (by omega) ⟨hB.2.2.1.kv, hC, hF⟩ (by omega)
  refine ⟨h', ?_, hB.upd hi.2 p5 (fun a q => by omega) ⟨n', es', p4⟩ p3, p5, p6, p7⟩
  have e : sx_Cl S 80 [.ref 2, .int (sz i), .int (sz ch)] h = some (.inl (some (.int (sz (C.waysN ch)))), h') := by
    simp (disch := omega) only [c80_q, q80, e1, f5, e2, p1, Option.bind_some, sz_lt0, sz_lt, sz_0lt, sz_mul, sz_add, sz_sub, sz_eq0, sz_eq, sz_nat, List.length_map, nb0, nb1, bz_eq0, ↓reduceIte, Int.reduceEq, Int.reduceLT, Int.reduceAdd, Int.reduceSub, Int.reduceMul, Int.reduceNeg]
  simp (disch := omega) only [c106_q, q106, e, Option.bind_some, sz_lt0, sz_lt, sz_0lt, sz_mul, sz_add, sz_sub, sz_eq0, sz_eq, sz_nat, List.length_map, nb0, nb1, bz_eq0, ↓reduceIte, Int.reduceEq, Int.reduceLT, Int.reduceAdd, Int.reduceSub, Int.reduceMul, Int.reduceNeg]
theorem w_ways_many (hB : sx_BV h 4 tl ws L) (hi : 0 ≤ i ∧ L[i.toNat]? = some (c, C)) {ch : Int} (hch : 1 ≤ ch ∧ ch ≤ 4) (hm : 6 < C.many (-1)) :
    sx_Cl S 106 [.ref 2, .int (sz i), .int (sz ch)] h = some (.inl (some (.int (sz (-900003)))), sx_push h none 6) := by
  obtain ⟨f0, f1, f3, f4, f5, f6, f8, f10, f11, k2, k3, k11, k13, k15, hl⟩ := hB.g
  have e1 := o_clothOf (S := S) hB hi
  have e2 := o_fillable_many (S := S) hB (hB.cl hi).2 hch hm
  have e : sx_Cl S 80 [.ref 2, .int (sz i), .int (sz ch)] h = some (.inr 3, sx_push h none 6) := by
    simp (disch := omega) only [c80_q, q80, e1, e2, Option.bind_some, sz_lt0, sz_lt, sz_0lt, sz_mul, sz_add, sz_sub, sz_eq0, sz_eq, sz_nat, List.length_map, nb0, nb1, bz_eq0, ↓reduceIte, Int.reduceEq, Int.reduceLT, Int.reduceAdd, Int.reduceSub, Int.reduceMul, Int.reduceNeg]
  simp (disch := omega) only [c106_q, q106, e, Option.bind_some, sz_lt0, sz_lt, sz_0lt, sz_mul, sz_add, sz_sub, sz_eq0, sz_eq, sz_nat, List.length_map, nb0, nb1, bz_eq0, ↓reduceIte, Int.reduceEq, Int.reduceLT, Int.reduceAdd, Int.reduceSub, Int.reduceMul, Int.reduceNeg]
theorem w_ways_no (hB : sx_BV h 4 tl ws L) (hi : 0 ≤ i ∧ L[i.toNat]? = some (c, C)) {ch : Int} (hch : 4 < ch ∧ ch ≤ 1000) :
    sx_Cl S 106 [.ref 2, .int (sz i), .int (sz ch)] h = some (.inl (some (.int (sz (-900002)))), sx_push h none 6) := by
  obtain ⟨f0, f1, f3, f4, f5, f6, f8, f10, f11, k2, k3, k11, k13, k15, hl⟩ := hB.g
  have e1 := o_clothOf (S := S) hB hi
  have e2 := o_fillable_no (S := S) (c := c) hB hch
  have e : sx_Cl S 80 [.ref 2, .int (sz i), .int (sz ch)] h = some (.inr 0, sx_push h none 6) := by
    simp (disch := omega) only [c80_q, q80, e1, e2, Option.bind_some, sz_lt0, sz_lt, sz_0lt, sz_mul, sz_add, sz_sub, sz_eq0, sz_eq, sz_nat, List.length_map, nb0, nb1, bz_eq0, ↓reduceIte, Int.reduceEq, Int.reduceLT, Int.reduceAdd, Int.reduceSub, Int.reduceMul, Int.reduceNeg]
  simp (disch := omega) only [c106_q, q106, e, Option.bind_some, sz_lt0, sz_lt, sz_0lt, sz_mul, sz_add, sz_sub, sz_eq0, sz_eq, sz_nat, List.length_map, nb0, nb1, bz_eq0, ↓reduceIte, Int.reduceEq, Int.reduceLT, Int.reduceAdd, Int.reduceSub, Int.reduceMul, Int.reduceNeg]
theorem w_fill (hB : sx_BV h 4 tl ws L) (hi : 0 ≤ i ∧ L[i.toNat]? = some (c, C)) {ch : Nat} (hch : 1 ≤ ch ∧ ch ≤ 4) (hm : C.many (-1) ≤ 6) :
    ∃ (h' : sx_H) (D : Clo) (x : Int), sx_Cl S 107 [.ref 2, .int (sz i), .int (sz ch)] h = some (.inl (some (.int (sz x))), h') ∧
      ((x = -900004 ∧ D = C ∧ (0 < C.own ∨ Clo.fst ch C.ems C = none)) ∨ (x = C.many (-1) ∧ ¬ 0 < C.own ∧ Clo.fst ch C.ems C = some D)) ∧
      sx_BV h' 4 tl ws (L.set i.toNat (c, D)) ∧ ∃ d, d ≤ 1 ∧ sx_gr (fun a => (a = c + 3 ∨ a = c + 4) ∨ a = 15 ∨ a = 16) d (6 * d) h h' := by
  obtain ⟨f0, f1, f3, f4, f5, f6, f8, f10, f11, k2, k3, k11, k13, k15, hl⟩ := hB.g
  have hc := (hB.cl hi).1
  have hC := (hB.cl hi).2
  have fk := (hC.f (S := S)).2.2.2.2.2.2.2.2.1
  obtain ⟨m, es, hF⟩ := hB.2.2.2.2.2.1
  have e1 := o_clothOf (S := S) hB hi
  have e2 := o_fillable (S := S) hB hC (ch := (ch : Int)) (by omega) hm
  have e3 := m_countOf (S := S) hC (k := -1) (by omega)
  have hem := C.ems_many
  obtain ⟨h', n', es', D, x, p1, pd, ⟨p2, p3, p4⟩, p5, p6, p7⟩ := m_tryFirst (S := S) hch (by omega) (by omega) ⟨hB.2.2.1.kv, hC, hF⟩ (by omega)
  have hB' := hB.upd hi.2 p5 (fun a q => by omega) ⟨n', es', p4⟩ p3
  have g0 : sx_gr (fun a => (a = c + 3 ∨ a = c + 4) ∨ a = 15 ∨ a = 16) 0 0 h h' := ⟨p5, p6, p7⟩
  rcases pd with ⟨q1, q2, q3⟩ | ⟨q1, q2, q3⟩
  · refine ⟨sx_push h' none 6, D, -900004, ?_, Or.inl ⟨rfl, q2, q3⟩, hB'.exc, 1, Nat.le_refl 1, g0.trans (sx_gr.push h' none 6)⟩
    subst q1
    have e : sx_Cl S 81 [.ref 2, .int (sz i), .int (sz ch)] h = some (.inr 4, sx_push h' none 6) := by
      simp (disch := omega) only [c81_q, q81, e1, f5, e2, e3, p1, Option.bind_some, sz_lt0, sz_lt, sz_0lt, sz_mul, sz_add, sz_sub, sz_eq0, sz_eq, sz_nat, List.length_map, nb0, nb1, bz_eq0, ↓reduceIte, Int.reduceEq, Int.reduceLT, Int.reduceAdd, Int.reduceSub, Int.reduceMul, Int.reduceNeg]
    simp (disch := omega) only [c107_q, q107, e, Option.bind_some, sz_lt0, sz_lt, sz_0lt, sz_mul, sz_add, sz_sub, sz_eq0, sz_eq, sz_nat, List.length_map, nb0, nb1, bz_eq0, ↓reduceIte, Int.reduceEq, Int.reduceLT, Int.reduceAdd, Int.reduceSub, Int.reduceMul, Int.reduceNeg]
  · refine ⟨h', D, C.many (-1), ?_, Or.inr ⟨rfl, q2, q3⟩, hB', 0, by decide, g0⟩
    subst q1
    have e : sx_Cl S 81 [.ref 2, .int (sz i), .int (sz ch)] h = some (.inl (some (.int (sz (C.many (-1))))), h') := by
      simp (disch := omega) only [c81_q, q81, e1, f5, e2, e3, p1, Option.bind_some, sz_lt0, sz_lt, sz_0lt, sz_mul, sz_add, sz_sub, sz_eq0, sz_eq, sz_nat, List.length_map, nb0, nb1, bz_eq0, ↓reduceIte, Int.reduceEq, Int.reduceLT, Int.reduceAdd, Int.reduceSub, Int.reduceMul, Int.reduceNeg]
    simp (disch := omega) only [c107_q, q107, e, Option.bind_some, sz_lt0, sz_lt, sz_0lt, sz_mul, sz_add, sz_sub, sz_eq0, sz_eq, sz_nat, List.length_map, nb0, nb1, bz_eq0, ↓reduceIte, Int.reduceEq, Int.reduceLT, Int.reduceAdd, Int.reduceSub, Int.reduceMul, Int.reduceNeg]
theorem w_repeat (hB : sx_BV h 4 tl ws L) (hi : 0 ≤ i ∧ L[i.toNat]? = some (c, C)) (he : C.many (-1) = 0) : sx_Cl S 108 [.ref 2, .int (sz i)] h = some (.inl (some (.int (sz C.lrep))), h) := by
  obtain ⟨f0, f1, f3, f4, f5, f6, f8, f10, f11, k2, k3, k11, k13, k15, hl⟩ := hB.g
  have e1 := o_clothOf (S := S) hB hi
  have e2 := o_full (S := S) (hB.cl hi).2 he
  have e3 := m_lrep (S := S) (hB.cl hi).2
  have e : sx_Cl S 83 [.ref 2, .int (sz i)] h = some (.inl (some (.int (sz C.lrep))), h) := by
    simp (disch := omega) only [c83_q, q83, e1, e2, e3, Option.bind_some, sz_lt0, sz_lt, sz_0lt, sz_mul, sz_add, sz_sub, sz_eq0, sz_eq, sz_nat, List.length_map, nb0, nb1, bz_eq0, ↓reduceIte, Int.reduceEq, Int.reduceLT, Int.reduceAdd, Int.reduceSub, Int.reduceMul, Int.reduceNeg]
  simp (disch := omega) only [c108_q, q108, e, Option.bind_some, sz_lt0, sz_lt, sz_0lt, sz_mul, sz_add, sz_sub, sz_eq0, sz_eq, sz_nat, List.length_map, nb0, nb1, bz_eq0, ↓reduceIte, Int.reduceEq, Int.reduceLT, Int.reduceAdd, Int.reduceSub, Int.reduceMul, Int.reduceNeg]
theorem w_repeat_no (hB : sx_BV h 4 tl ws L) (hi : 0 ≤ i ∧ L[i.toNat]? = some (c, C)) (he : 0 < C.many (-1)) : sx_Cl S 108 [.ref 2, .int (sz i)] h = some (.inl (some (.int (sz (-900002)))), sx_push h none 6) := by
  obtain ⟨f0, f1, f3, f4, f5, f6, f8, f10, f11, k2, k3, k11, k13, k15, hl⟩ := hB.g
  have e1 := o_clothOf (S := S) hB hi
  have e2 := o_full_no (S := S) (hB.cl hi).2 he
  have e : sx_Cl S 83 [.ref 2, .int (sz i)] h = some (.inr 3, sx_push h none 6) := by
    simp (disch := omega) only [c83_q, q83, e1, e2, Option.bind_some, sz_lt0, sz_lt, sz_0lt, sz_mul, sz_add, sz_sub, sz_eq0, sz_eq, sz_nat, List.length_map, nb0, nb1, bz_eq0, ↓reduceIte, Int.reduceEq, Int.reduceLT, Int.reduceAdd, Int.reduceSub, Int.reduceMul, Int.reduceNeg]
  simp (disch := omega) only [c108_q, q108, e, Option.bind_some, sz_lt0, sz_lt, sz_0lt, sz_mul, sz_add, sz_sub, sz_eq0, sz_eq, sz_nat, List.length_map, nb0, nb1, bz_eq0, ↓reduceIte, Int.reduceEq, Int.reduceLT, Int.reduceAdd, Int.reduceSub, Int.reduceMul, Int.reduceNeg]
theorem w_mir (hB : sx_BV h 4 tl ws L) (hi : 0 ≤ i ∧ L[i.toNat]? = some (c, C)) (he : C.many (-1) = 0) : sx_Cl S 116 [.ref 2, .int (sz i)] h = some (.inl (some (.int (sz (bz C.mir)))), h) := by
  obtain ⟨f0, f1, f3, f4, f5, f6, f8, f10, f11, k2, k3, k11, k13, k15, hl⟩ := hB.g
  have e1 := o_clothOf (S := S) hB hi
  have e2 := o_full (S := S) (hB.cl hi).2 he
  have e3 := m_mir (S := S) (hB.cl hi).2
  have nb : narrow .boolean (.int (sz (bz C.mir))) = .int (sz (bz C.mir)) := by cases C.mir <;> rfl
  have e : sx_Cl S 84 [.ref 2, .int (sz i)] h = some (.inl (some (.int (sz (bz C.mir)))), h) := by
    simp (disch := omega) only [c84_q, q84, e1, e2, e3, Option.bind_some, sz_lt0, sz_lt, sz_0lt, sz_mul, sz_add, sz_sub, sz_eq0, sz_eq, sz_nat, List.length_map, nb0, nb1, bz_eq0, ↓reduceIte, Int.reduceEq, Int.reduceLT, Int.reduceAdd, Int.reduceSub, Int.reduceMul, Int.reduceNeg]
  simp (disch := omega) only [c116_q, q116, e, Option.bind_some, sz_lt0, sz_lt, sz_0lt, sz_mul, sz_add, sz_sub, sz_eq0, sz_eq, sz_nat, List.length_map, nb0, nb1, bz_eq0, ↓reduceIte, Int.reduceEq, Int.reduceLT, Int.reduceAdd, Int.reduceSub, Int.reduceMul, Int.reduceNeg]
  cases C.mir
  · rw [if_pos rfl]; rfl
  · rw [if_neg (by simp)]; rfl
theorem w_mir_no (hB : sx_BV h 4 tl ws L) (hi : 0 ≤ i ∧ L[i.toNat]? = some (c, C)) (he : 0 < C.many (-1)) : sx_Cl S 116 [.ref 2, .int (sz i)] h = some (.inl (some (.int (sz (-900002)))), sx_push h none 6) := by
  obtain ⟨f0, f1, f3, f4, f5, f6, f8, f10, f11, k2, k3, k11, k13, k15, hl⟩ := hB.g
  have e1 := o_clothOf (S := S) hB hi
  have e2 := o_full_no (S := S) (hB.cl hi).2 he
  have e : sx_Cl S 84 [.ref 2, .int (sz i)] h = some (.inr 3, sx_push h none 6) := by
    simp (disch := omega) only [c84_q, q84, e1, e2, Option.bind_some, sz_lt0, sz_lt, sz_0lt, sz_mul, sz_add, sz_sub, sz_eq0, sz_eq, sz_nat, List.length_map, nb0, nb1, bz_eq0, ↓reduceIte, Int.reduceEq, Int.reduceLT, Int.reduceAdd, Int.reduceSub, Int.reduceMul, Int.reduceNeg]
  simp (disch := omega) only [c116_q, q116, e, Option.bind_some, sz_lt0, sz_lt, sz_0lt, sz_mul, sz_add, sz_sub, sz_eq0, sz_eq, sz_nat, List.length_map, nb0, nb1, bz_eq0, ↓reduceIte, Int.reduceEq, Int.reduceLT, Int.reduceAdd, Int.reduceSub, Int.reduceMul, Int.reduceNeg]
theorem w_rowWidth (hB : sx_BV h 4 tl ws L) (hw : ∀ w ∈ ws, 0 ≤ w ∧ w ≤ 100) (hi : 0 ≤ i ∧ L[i.toNat]? = some (c, C)) {r : Int} (hr : 0 ≤ r ∧ r < C.nr) : sx_Cl S 109 [.ref 2, .int (sz i), .int (sz r)] h = some (.inl (some (.int (sz (C.wid ws r)))), h) := by
  obtain ⟨f0, f1, f3, f4, f5, f6, f8, f10, f11, k2, k3, k11, k13, k15, hl⟩ := hB.g
  have hC := (hB.cl hi).2
  have fk := (hC.f (S := S)).2.2.2.2.2.2.2.2.1
  obtain ⟨⟨a1, a2⟩, ⟨a3, a4⟩, a5, a6, a7, a8⟩ := hC.1
  have e1 := o_clothOf (S := S) hB hi
  have e2 := o_row (S := S) hC hr
  have e3 := m_wid (S := S) hB.2.2.1.kv hw hC (r := r) (by omega)
  have e : sx_Cl S 86 [.ref 2, .int (sz i), .int (sz r)] h = some (.inl (some (.int (sz (C.wid ws r)))), h) := by
    simp (disch := omega) only [c86_q, q86, e1, e2, e3, Option.bind_some, sz_lt0, sz_lt, sz_0lt, sz_mul, sz_add, sz_sub, sz_eq0, sz_eq, sz_nat, List.length_map, nb0, nb1, bz_eq0, ↓reduceIte, Int.reduceEq, Int.reduceLT, Int.reduceAdd, Int.reduceSub, Int.reduceMul, Int.reduceNeg]
  simp (disch := omega) only [c109_q, q109, e, Option.bind_some, sz_lt0, sz_lt, sz_0lt, sz_mul, sz_add, sz_sub, sz_eq0, sz_eq, sz_nat, List.length_map, nb0, nb1, bz_eq0, ↓reduceIte, Int.reduceEq, Int.reduceLT, Int.reduceAdd, Int.reduceSub, Int.reduceMul, Int.reduceNeg]
theorem w_runs (hB : sx_BV h 4 tl ws L) (hi : 0 ≤ i ∧ L[i.toNat]? = some (c, C)) {r : Int} (hr : 0 ≤ r ∧ r < C.nr) : sx_Cl S 110 [.ref 2, .int (sz i), .int (sz r)] h = some (.inl (some (.int (sz (C.runs r)))), h) := by
  obtain ⟨f0, f1, f3, f4, f5, f6, f8, f10, f11, k2, k3, k11, k13, k15, hl⟩ := hB.g
  have hC := (hB.cl hi).2
  obtain ⟨⟨a1, a2⟩, ⟨a3, a4⟩, a5, a6, a7, a8⟩ := hC.1
  have e1 := o_clothOf (S := S) hB hi
  have e2 := o_row (S := S) hC hr
  have e3 := m_runs (S := S) hC (r := r) (by omega)
  have e : sx_Cl S 87 [.ref 2, .int (sz i), .int (sz r)] h = some (.inl (some (.int (sz (C.runs r)))), h) := by
    simp (disch := omega) only [c87_q, q87, e1, e2, e3, Option.bind_some, sz_lt0, sz_lt, sz_0lt, sz_mul, sz_add, sz_sub, sz_eq0, sz_eq, sz_nat, List.length_map, nb0, nb1, bz_eq0, ↓reduceIte, Int.reduceEq, Int.reduceLT, Int.reduceAdd, Int.reduceSub, Int.reduceMul, Int.reduceNeg]
  simp (disch := omega) only [c110_q, q110, e, Option.bind_some, sz_lt0, sz_lt, sz_0lt, sz_mul, sz_add, sz_sub, sz_eq0, sz_eq, sz_nat, List.length_map, nb0, nb1, bz_eq0, ↓reduceIte, Int.reduceEq, Int.reduceLT, Int.reduceAdd, Int.reduceSub, Int.reduceMul, Int.reduceNeg]
theorem o_begin {K p q : Nat} (hC : sx_CV h K c p q C) {r k : Int} (l : Bool) (hr : 0 ≤ r ∧ r < C.nr) (hk : -1000 ≤ k ∧ k ≤ 1000) (hf : C.frun r k l ≠ -1) : sx_Cl S 88 [.ref c, .int (sz r), .int (sz k), .int (sz (bz l))] h = some (.inl (some (.int (sz (C.frun r k l)))), h) := by
  obtain ⟨f0, f1, f2, f3, f5, f6, f9, f10, fk, i5, i6⟩ := hC.f (S := S)
  obtain ⟨⟨a1, a2⟩, ⟨a3, a4⟩, a5, a6, a7, a8⟩ := hC.1
  have b2 := mulN_bd a4 a2
  have n0 := nb0
  have n1 := nb1
  have e1 := m_frun (S := S) hC (r := r) (k := k) l (by omega) (by omega)
  have hb := C.frun_bd r k l
  simp (disch := omega) only [c88_q, q88, e1, Option.bind_some, sz_lt0, sz_lt, sz_0lt, sz_mul, sz_add, sz_sub, sz_eq0, sz_eq, sz_nat, List.length_map, nb0, nb1, bz_eq0, ↓reduceIte, Int.reduceEq, Int.reduceLT, Int.reduceAdd, Int.reduceSub, Int.reduceMul, Int.reduceNeg]
  rw [if_neg (by omega)]
theorem o_begin_no {K p q : Nat} (hC : sx_CV h K c p q C) {r k : Int} (l : Bool) (hr : 0 ≤ r ∧ r < C.nr) (hk : -1000 ≤ k ∧ k ≤ 1000) (hf : C.frun r k l = -1) : sx_Cl S 88 [.ref c, .int (sz r), .int (sz k), .int (sz (bz l))] h = some (.inr 4, sx_push h none 6) := by
  obtain ⟨f0, f1, f2, f3, f5, f6, f9, f10, fk, i5, i6⟩ := hC.f (S := S)
  obtain ⟨⟨a1, a2⟩, ⟨a3, a4⟩, a5, a6, a7, a8⟩ := hC.1
  have b2 := mulN_bd a4 a2
  have n0 := nb0
  have n1 := nb1
  have e1 := m_frun (S := S) hC (r := r) (k := k) l (by omega) (by omega)
  rw [hf] at e1
  simp (disch := omega) only [c88_q, q88, e1, Option.bind_some, sz_lt0, sz_lt, sz_0lt, sz_mul, sz_add, sz_sub, sz_eq0, sz_eq, sz_nat, List.length_map, nb0, nb1, bz_eq0, ↓reduceIte, Int.reduceEq, Int.reduceLT, Int.reduceAdd, Int.reduceSub, Int.reduceMul, Int.reduceNeg]
theorem w_runLength (hB : sx_BV h 4 tl ws L) (hi : 0 ≤ i ∧ L[i.toNat]? = some (c, C)) {r k : Int} (l : Bool) (hr : 0 ≤ r ∧ r < C.nr) (hk : -1000 ≤ k ∧ k ≤ 1000) (hf : C.frun r k l ≠ -1) :
    sx_Cl S 111 [.ref 2, .int (sz i), .int (sz r), .int (sz k), .int (sz (bz l))] h = some (.inl (some (.int (sz (C.cells r (C.frun r k l) l)))), h) := by
  obtain ⟨f0, f1, f3, f4, f5, f6, f8, f10, f11, k2, k3, k11, k13, k15, hl⟩ := hB.g
  have hC := (hB.cl hi).2
  obtain ⟨⟨a1, a2⟩, ⟨a3, a4⟩, a5, a6, a7, a8⟩ := hC.1
  have hb := C.frun_bd r k l
  have e1 := o_clothOf (S := S) hB hi
  have e2 := o_row (S := S) hC hr
  have e3 := o_begin (S := S) hC l hr hk hf
  have e4 := m_cells (S := S) hC (r := r) (b := C.frun r k l) l (by omega) (by omega)
  have e : sx_Cl S 89 [.ref 2, .int (sz i), .int (sz r), .int (sz k), .int (sz (bz l))] h = some (.inl (some (.int (sz (C.cells r (C.frun r k l) l)))), h) := by
    simp (disch := omega) only [c89_q, q89, e1, e2, e3, e4, Option.bind_some, sz_lt0, sz_lt, sz_0lt, sz_mul, sz_add, sz_sub, sz_eq0, sz_eq, sz_nat, List.length_map, nb0, nb1, bz_eq0, ↓reduceIte, Int.reduceEq, Int.reduceLT, Int.reduceAdd, Int.reduceSub, Int.reduceMul, Int.reduceNeg]
  simp (disch := omega) only [c111_q, q111, e, Option.bind_some, sz_lt0, sz_lt, sz_0lt, sz_mul, sz_add, sz_sub, sz_eq0, sz_eq, sz_nat, List.length_map, nb0, nb1, bz_eq0, ↓reduceIte, Int.reduceEq, Int.reduceLT, Int.reduceAdd, Int.reduceSub, Int.reduceMul, Int.reduceNeg]
theorem w_runLength_no (hB : sx_BV h 4 tl ws L) (hi : 0 ≤ i ∧ L[i.toNat]? = some (c, C)) {r k : Int} (l : Bool) (hr : 0 ≤ r ∧ r < C.nr) (hk : -1000 ≤ k ∧ k ≤ 1000) (hf : C.frun r k l = -1) :
    sx_Cl S 111 [.ref 2, .int (sz i), .int (sz r), .int (sz k), .int (sz (bz l))] h = some (.inl (some (.int (sz (-900002)))), sx_push h none 6) := by
  obtain ⟨f0, f1, f3, f4, f5, f6, f8, f10, f11, k2, k3, k11, k13, k15, hl⟩ := hB.g
  have hC := (hB.cl hi).2
  have e1 := o_clothOf (S := S) hB hi
  have e2 := o_row (S := S) hC hr
  have e3 := o_begin_no (S := S) hC l hr hk hf
  have e : sx_Cl S 89 [.ref 2, .int (sz i), .int (sz r), .int (sz k), .int (sz (bz l))] h = some (.inr 4, sx_push h none 6) := by
    simp (disch := omega) only [c89_q, q89, e1, e2, e3, Option.bind_some, sz_lt0, sz_lt, sz_0lt, sz_mul, sz_add, sz_sub, sz_eq0, sz_eq, sz_nat, List.length_map, nb0, nb1, bz_eq0, ↓reduceIte, Int.reduceEq, Int.reduceLT, Int.reduceAdd, Int.reduceSub, Int.reduceMul, Int.reduceNeg]
  simp (disch := omega) only [c111_q, q111, e, Option.bind_some, sz_lt0, sz_lt, sz_0lt, sz_mul, sz_add, sz_sub, sz_eq0, sz_eq, sz_nat, List.length_map, nb0, nb1, bz_eq0, ↓reduceIte, Int.reduceEq, Int.reduceLT, Int.reduceAdd, Int.reduceSub, Int.reduceMul, Int.reduceNeg]
theorem w_runColour (hB : sx_BV h 4 tl ws L) (hi : 0 ≤ i ∧ L[i.toNat]? = some (c, C)) {r k : Int} (l : Bool) (hr : 0 ≤ r ∧ r < C.nr) (hk : -1000 ≤ k ∧ k ≤ 1000) (hf : C.frun r k l ≠ -1) :
    sx_Cl S 112 [.ref 2, .int (sz i), .int (sz r), .int (sz k), .int (sz (bz l))] h = some (.inl (some (.int (sz (C.g r (C.frun r k l))))), h) := by
  obtain ⟨f0, f1, f3, f4, f5, f6, f8, f10, f11, k2, k3, k11, k13, k15, hl⟩ := hB.g
  have hC := (hB.cl hi).2
  have fk := (hC.f (S := S)).2.2.2.2.2.2.2.2.1
  obtain ⟨⟨a1, a2⟩, ⟨a3, a4⟩, a5, a6, a7, a8⟩ := hC.1
  have hb := C.frun_bd r k l
  have e1 := o_clothOf (S := S) hB hi
  have e2 := o_row (S := S) hC hr
  have e3 := o_begin (S := S) hC l hr hk hf
  have e4 := m_colourAt (S := S) hC (r := r) (x := C.frun r k l) (by omega) (by omega)
  have e : sx_Cl S 90 [.ref 2, .int (sz i), .int (sz r), .int (sz k), .int (sz (bz l))] h = some (.inl (some (.int (sz (C.g r (C.frun r k l))))), h) := by
    simp (disch := omega) only [c90_q, q90, e1, e2, e3, e4, Option.bind_some, sz_lt0, sz_lt, sz_0lt, sz_mul, sz_add, sz_sub, sz_eq0, sz_eq, sz_nat, List.length_map, nb0, nb1, bz_eq0, ↓reduceIte, Int.reduceEq, Int.reduceLT, Int.reduceAdd, Int.reduceSub, Int.reduceMul, Int.reduceNeg]
  simp (disch := omega) only [c112_q, q112, e, Option.bind_some, sz_lt0, sz_lt, sz_0lt, sz_mul, sz_add, sz_sub, sz_eq0, sz_eq, sz_nat, List.length_map, nb0, nb1, bz_eq0, ↓reduceIte, Int.reduceEq, Int.reduceLT, Int.reduceAdd, Int.reduceSub, Int.reduceMul, Int.reduceNeg]
theorem w_runWord (hB : sx_BV h 4 tl ws L) (hi : 0 ≤ i ∧ L[i.toNat]? = some (c, C)) {r k u : Int} (hr : 0 ≤ r ∧ r < C.nr) (hk : -1000 ≤ k ∧ k ≤ 1000) (hu : 0 ≤ u ∧ u < 3) (hf : C.frun r k false ≠ -1) :
    sx_Cl S 113 [.ref 2, .int (sz i), .int (sz r), .int (sz k), .int (sz u)] h = some (.inl (some (.int (sz (C.g r (C.frun r k false))))), h) := by
  obtain ⟨f0, f1, f3, f4, f5, f6, f8, f10, f11, k2, k3, k11, k13, k15, hl⟩ := hB.g
  have hC := (hB.cl hi).2
  have fk := (hC.f (S := S)).2.2.2.2.2.2.2.2.1
  obtain ⟨⟨a1, a2⟩, ⟨a3, a4⟩, a5, a6, a7, a8⟩ := hC.1
  have hb := C.frun_bd r k false
  have hg := C.g_bd hC.1 r (C.frun r k false)
  have e1 := o_clothOf (S := S) hB hi
  have e2 := o_row (S := S) hC hr
  have e0 := o_range (S := S) (h := h) (v := u) (a := 0) (b := 2) (by omega) (by omega) (by omega)
  have e3 := o_begin (S := S) hC false hr hk hf
  rw [bz_f] at e3
  have e4 := m_colourAt (S := S) hC (r := r) (x := C.frun r k false) (by omega) (by omega)
  have e5 := m_word (S := S) hB.2.2.2.2.1.1 hB.2.2.2.2.1.2 hu (k := C.g r (C.frun r k false)) (by omega)
  have e : sx_Cl S 91 [.ref 2, .int (sz i), .int (sz r), .int (sz k), .int (sz u)] h = some (.inl (some (.int (sz (C.g r (C.frun r k false))))), h) := by
    simp (disch := omega) only [c91_q, q91, e1, e2, e0, e3, e4, f4, e5, Option.bind_some, sz_lt0, sz_lt, sz_0lt, sz_mul, sz_add, sz_sub, sz_eq0, sz_eq, sz_nat, List.length_map, nb0, nb1, bz_eq0, ↓reduceIte, Int.reduceEq, Int.reduceLT, Int.reduceAdd, Int.reduceSub, Int.reduceMul, Int.reduceNeg]
  simp (disch := omega) only [c113_q, q113, e, Option.bind_some, sz_lt0, sz_lt, sz_0lt, sz_mul, sz_add, sz_sub, sz_eq0, sz_eq, sz_nat, List.length_map, nb0, nb1, bz_eq0, ↓reduceIte, Int.reduceEq, Int.reduceLT, Int.reduceAdd, Int.reduceSub, Int.reduceMul, Int.reduceNeg]
theorem w_runWord_no (hB : sx_BV h 4 tl ws L) (hi : 0 ≤ i ∧ L[i.toNat]? = some (c, C)) {r k u : Int} (hr : 0 ≤ r ∧ r < C.nr) (hu : 2 < u ∧ u ≤ 1000) :
    sx_Cl S 113 [.ref 2, .int (sz i), .int (sz r), .int (sz k), .int (sz u)] h = some (.inl (some (.int (sz (-900002)))), sx_push h none 6) := by
  obtain ⟨f0, f1, f3, f4, f5, f6, f8, f10, f11, k2, k3, k11, k13, k15, hl⟩ := hB.g
  have e1 := o_clothOf (S := S) hB hi
  have e2 := o_row (S := S) (hB.cl hi).2 hr
  have e0 := o_range_no (S := S) (h := h) (v := u) (a := 0) (b := 2) (by omega) (by omega)
  have e : sx_Cl S 91 [.ref 2, .int (sz i), .int (sz r), .int (sz k), .int (sz u)] h = some (.inr 0, sx_push h none 6) := by
    simp (disch := omega) only [c91_q, q91, e1, e2, e0, Option.bind_some, sz_lt0, sz_lt, sz_0lt, sz_mul, sz_add, sz_sub, sz_eq0, sz_eq, sz_nat, List.length_map, nb0, nb1, bz_eq0, ↓reduceIte, Int.reduceEq, Int.reduceLT, Int.reduceAdd, Int.reduceSub, Int.reduceMul, Int.reduceNeg]
  simp (disch := omega) only [c113_q, q113, e, Option.bind_some, sz_lt0, sz_lt, sz_0lt, sz_mul, sz_add, sz_sub, sz_eq0, sz_eq, sz_nat, List.length_map, nb0, nb1, bz_eq0, ↓reduceIte, Int.reduceEq, Int.reduceLT, Int.reduceAdd, Int.reduceSub, Int.reduceMul, Int.reduceNeg]
theorem w_guess (hB : sx_BV h 4 tl ws L) (hi : 0 ≤ i ∧ L[i.toNat]? = some (c, C)) {r x u : Int} (hr : 0 ≤ r ∧ r < C.nr) (hx : 0 ≤ x ∧ x < C.nc) (hu : 1 ≤ u ∧ u ≤ 12) (hf : C.freq r x u ≠ -1) :
    sx_Cl S 115 [.ref 2, .int (sz i), .int (sz r), .int (sz x), .int (sz u)] h = some (.inl (some (.int (sz (C.freq r x u)))), h) := by
  obtain ⟨f0, f1, f3, f4, f5, f6, f8, f10, f11, k2, k3, k11, k13, k15, hl⟩ := hB.g
  have hC := (hB.cl hi).2
  obtain ⟨⟨a1, a2⟩, ⟨a3, a4⟩, a5, a6, a7, a8⟩ := hC.1
  have hb := nbest_bd (fun d => C.step r x u d) 8 0 (-1) 0 (by omega)
  have hb : -1 ≤ C.freq r x u ∧ C.freq r x u ≤ 8 := ⟨hb.1, by have := hb.2; unfold Clo.freq; omega⟩
  have e1 := o_clothOf (S := S) hB hi
  have e2 := o_place (S := S) hC hr hx
  have e0 := o_range (S := S) (h := h) (v := u) (a := 1) (b := 12) (by omega) (by omega) (by omega)
  have e3 := m_freq (S := S) hC (r := r) (x := x) (s := u) (by omega) (by omega) (by omega)
  have e : sx_Cl S 93 [.ref 2, .int (sz i), .int (sz r), .int (sz x), .int (sz u)] h = some (.inl (some (.int (sz (C.freq r x u)))), h) := by
    simp (disch := omega) only [c93_q, q93, e1, e2, e0, e3, Option.bind_some, sz_lt0, sz_lt, sz_0lt, sz_mul, sz_add, sz_sub, sz_eq0, sz_eq, sz_nat, List.length_map, nb0, nb1, bz_eq0, ↓reduceIte, Int.reduceEq, Int.reduceLT, Int.reduceAdd, Int.reduceSub, Int.reduceMul, Int.reduceNeg]
    rw [if_neg hf]
  simp (disch := omega) only [c115_q, q115, e, Option.bind_some, sz_lt0, sz_lt, sz_0lt, sz_mul, sz_add, sz_sub, sz_eq0, sz_eq, sz_nat, List.length_map, nb0, nb1, bz_eq0, ↓reduceIte, Int.reduceEq, Int.reduceLT, Int.reduceAdd, Int.reduceSub, Int.reduceMul, Int.reduceNeg]
theorem w_guess_none (hB : sx_BV h 4 tl ws L) (hi : 0 ≤ i ∧ L[i.toNat]? = some (c, C)) {r x u : Int} (hr : 0 ≤ r ∧ r < C.nr) (hx : 0 ≤ x ∧ x < C.nc) (hu : 1 ≤ u ∧ u ≤ 12) (hf : C.freq r x u = -1) :
    sx_Cl S 115 [.ref 2, .int (sz i), .int (sz r), .int (sz x), .int (sz u)] h = some (.inl (some (.int (sz (-900003)))), sx_push h none 6) := by
  obtain ⟨f0, f1, f3, f4, f5, f6, f8, f10, f11, k2, k3, k11, k13, k15, hl⟩ := hB.g
  have hC := (hB.cl hi).2
  obtain ⟨⟨a1, a2⟩, ⟨a3, a4⟩, a5, a6, a7, a8⟩ := hC.1
  have e1 := o_clothOf (S := S) hB hi
  have e2 := o_place (S := S) hC hr hx
  have e0 := o_range (S := S) (h := h) (v := u) (a := 1) (b := 12) (by omega) (by omega) (by omega)
  have e3 := m_freq (S := S) hC (r := r) (x := x) (s := u) (by omega) (by omega) (by omega)
  rw [hf] at e3
  have e : sx_Cl S 93 [.ref 2, .int (sz i), .int (sz r), .int (sz x), .int (sz u)] h = some (.inr 4, sx_push h none 6) := by
    simp (disch := omega) only [c93_q, q93, e1, e2, e0, e3, Option.bind_some, sz_lt0, sz_lt, sz_0lt, sz_mul, sz_add, sz_sub, sz_eq0, sz_eq, sz_nat, List.length_map, nb0, nb1, bz_eq0, ↓reduceIte, Int.reduceEq, Int.reduceLT, Int.reduceAdd, Int.reduceSub, Int.reduceMul, Int.reduceNeg]
  simp (disch := omega) only [c115_q, q115, e, Option.bind_some, sz_lt0, sz_lt, sz_0lt, sz_mul, sz_add, sz_sub, sz_eq0, sz_eq, sz_nat, List.length_map, nb0, nb1, bz_eq0, ↓reduceIte, Int.reduceEq, Int.reduceLT, Int.reduceAdd, Int.reduceSub, Int.reduceMul, Int.reduceNeg]
theorem w_guess_no (hB : sx_BV h 4 tl ws L) (hi : 0 ≤ i ∧ L[i.toNat]? = some (c, C)) {r x u : Int} (hr : 0 ≤ r ∧ r < C.nr) (hx : 0 ≤ x ∧ x < C.nc) (hu : 12 < u ∧ u ≤ 1000) :
    sx_Cl S 115 [.ref 2, .int (sz i), .int (sz r), .int (sz x), .int (sz u)] h = some (.inl (some (.int (sz (-900002)))), sx_push h none 6) := by
  obtain ⟨f0, f1, f3, f4, f5, f6, f8, f10, f11, k2, k3, k11, k13, k15, hl⟩ := hB.g
  have e1 := o_clothOf (S := S) hB hi
  have e2 := o_place (S := S) (hB.cl hi).2 hr hx
  have e0 := o_range_no (S := S) (h := h) (v := u) (a := 1) (b := 12) (by omega) (by omega)
  have e : sx_Cl S 93 [.ref 2, .int (sz i), .int (sz r), .int (sz x), .int (sz u)] h = some (.inr 0, sx_push h none 6) := by
    simp (disch := omega) only [c93_q, q93, e1, e2, e0, Option.bind_some, sz_lt0, sz_lt, sz_0lt, sz_mul, sz_add, sz_sub, sz_eq0, sz_eq, sz_nat, List.length_map, nb0, nb1, bz_eq0, ↓reduceIte, Int.reduceEq, Int.reduceLT, Int.reduceAdd, Int.reduceSub, Int.reduceMul, Int.reduceNeg]
  simp (disch := omega) only [c115_q, q115, e, Option.bind_some, sz_lt0, sz_lt, sz_0lt, sz_mul, sz_add, sz_sub, sz_eq0, sz_eq, sz_nat, List.length_map, nb0, nb1, bz_eq0, ↓reduceIte, Int.reduceEq, Int.reduceLT, Int.reduceAdd, Int.reduceSub, Int.reduceMul, Int.reduceNeg]
theorem w_shared (hB : sx_BV h 4 tl ws L) (hi : 0 ≤ i ∧ L[i.toNat]? = some (c, C)) {j k : Int} {d e : Nat} {D E : Clo} (hj : 0 ≤ j ∧ L[j.toNat]? = some (d, D)) (hk : 0 ≤ k ∧ L[k.toNat]? = some (e, E))
    (h1 : C.st = D.st ∧ C.nc = D.nc ∧ C.nr = D.nr) (h2 : C.st = E.st ∧ C.nc = E.nc ∧ C.nr = E.nr) :
    sx_Cl S 114 [.ref 2, .int (sz i), .int (sz j), .int (sz k)] h = some (.inl (some (.int (sz (nshared C D E)))), h) := by
  obtain ⟨f0, f1, f3, f4, f5, f6, f8, f10, f11, k2, k3, k11, k13, k15, hl⟩ := hB.g
  have fk := ((hB.cl hi).2.f (S := S)).2.2.2.2.2.2.2.2.1
  have e1 := o_clothOf (S := S) hB hi
  have e2 := o_clothOf (S := S) hB hj
  have e3 := o_clothOf (S := S) hB hk
  have e4 := m_like (S := S) (hB.cl hi).2 (hB.cl hj).2
  have e5 := m_like (S := S) (hB.cl hi).2 (hB.cl hk).2
  rw [decide_eq_true h1] at e4
  rw [decide_eq_true h2] at e5
  have e6 := m_shared (S := S) (hB.cl hi).2 (hB.cl hj).2 (hB.cl hk).2
  have e : sx_Cl S 92 [.ref 2, .int (sz i), .int (sz j), .int (sz k)] h = some (.inl (some (.int (sz (nshared C D E)))), h) := by
    simp (disch := omega) only [c92_q, q92, e1, e2, e3, e4, e5, e6, Option.bind_some, sz_lt0, sz_lt, sz_0lt, sz_mul, sz_add, sz_sub, sz_eq0, sz_eq, sz_nat, List.length_map, nb0, nb1, bz_eq0, ↓reduceIte, Int.reduceEq, Int.reduceLT, Int.reduceAdd, Int.reduceSub, Int.reduceMul, Int.reduceNeg]
    rw [if_neg (by simp), if_neg (by simp)]
  simp (disch := omega) only [c114_q, q114, e, Option.bind_some, sz_lt0, sz_lt, sz_0lt, sz_mul, sz_add, sz_sub, sz_eq0, sz_eq, sz_nat, List.length_map, nb0, nb1, bz_eq0, ↓reduceIte, Int.reduceEq, Int.reduceLT, Int.reduceAdd, Int.reduceSub, Int.reduceMul, Int.reduceNeg]
theorem w_shared_no (hB : sx_BV h 4 tl ws L) (hi : 0 ≤ i ∧ L[i.toNat]? = some (c, C)) {j k : Int} {d e : Nat} {D E : Clo} (hj : 0 ≤ j ∧ L[j.toNat]? = some (d, D)) (hk : 0 ≤ k ∧ L[k.toNat]? = some (e, E))
    (h1 : C.st = D.st ∧ C.nc = D.nc ∧ C.nr = D.nr) (h2 : ¬ (C.st = E.st ∧ C.nc = E.nc ∧ C.nr = E.nr)) :
    sx_Cl S 114 [.ref 2, .int (sz i), .int (sz j), .int (sz k)] h = some (.inl (some (.int (sz (-900002)))), sx_push h none 6) := by
  obtain ⟨f0, f1, f3, f4, f5, f6, f8, f10, f11, k2, k3, k11, k13, k15, hl⟩ := hB.g
  have fk := ((hB.cl hi).2.f (S := S)).2.2.2.2.2.2.2.2.1
  have e1 := o_clothOf (S := S) hB hi
  have e2 := o_clothOf (S := S) hB hj
  have e3 := o_clothOf (S := S) hB hk
  have e4 := m_like (S := S) (hB.cl hi).2 (hB.cl hj).2
  have e5 := m_like (S := S) (hB.cl hi).2 (hB.cl hk).2
  rw [decide_eq_true h1] at e4
  rw [decide_eq_false h2] at e5
  have e : sx_Cl S 92 [.ref 2, .int (sz i), .int (sz j), .int (sz k)] h = some (.inr 3, sx_push h none 6) := by
    simp (disch := omega) only [c92_q, q92, e1, e2, e3, e4, e5, Option.bind_some, sz_lt0, sz_lt, sz_0lt, sz_mul, sz_add, sz_sub, sz_eq0, sz_eq, sz_nat, List.length_map, nb0, nb1, bz_eq0, ↓reduceIte, Int.reduceEq, Int.reduceLT, Int.reduceAdd, Int.reduceSub, Int.reduceMul, Int.reduceNeg]
    rw [if_neg (by simp)]
  simp (disch := omega) only [c114_q, q114, e, Option.bind_some, sz_lt0, sz_lt, sz_0lt, sz_mul, sz_add, sz_sub, sz_eq0, sz_eq, sz_nat, List.length_map, nb0, nb1, bz_eq0, ↓reduceIte, Int.reduceEq, Int.reduceLT, Int.reduceAdd, Int.reduceSub, Int.reduceMul, Int.reduceNeg]
end SXC2
