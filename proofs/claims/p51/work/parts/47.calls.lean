/-! THE CALLS of the workshop that the law makes, first part -/
section SXC1
variable {S : List Int32} {h : sx_H} {n : Nat} {tl : Int} {ws : List Int} {L : List (Nat × Clo)} {c : Nat} {C : Clo} {i : Int}
theorem sx_BV.g (hB : sx_BV h n tl ws L) : sx_fld h 2 6 0 = some (.ref 3) ∧ sx_fld h 2 6 1 = some (.ref 9) ∧ sx_fld h 2 6 3 = some (.ref 11) ∧ sx_fld h 2 6 4 = some (.ref 13) ∧ sx_fld h 2 6 5 = some (.ref 15) ∧ sx_fld h 2 6 6 = some (.int (sz L.length)) ∧ sx_fld h 2 6 8 = some (.int (sz tl)) ∧ sx_fld h 2 6 10 = some (.int (sz 0)) ∧ sx_fld h 2 6 11 = some (.int (sz 0)) ∧
    sx_klass h 2 = some 6 ∧ sx_klass h 3 = some 2 ∧ sx_klass h 11 = some 4 ∧ sx_klass h 13 = some 5 ∧ sx_klass h 15 = some 1 ∧ L.length ≤ 6 := by
  obtain ⟨e1, e2, e3, e4, ⟨e5, e6⟩, ⟨m, es, e7⟩, e8, e9, ea, eb⟩ := hB
  exact ⟨sx_fld_of e1 rfl, sx_fld_of e1 rfl, sx_fld_of e1 rfl, sx_fld_of e1 rfl, sx_fld_of e1 rfl, sx_fld_of e1 rfl, sx_fld_of e1 rfl, sx_fld_of e1 rfl, sx_fld_of e1 rfl, sx_klass_of e1, sx_klass_of e3.1, sx_klass_of e4, sx_klass_of e5, sx_klass_of e7.1, e8⟩
theorem sx_BV.cl (hB : sx_BV h n tl ws L) (hi : 0 ≤ i ∧ L[i.toNat]? = some (c, C)) : 17 ≤ c ∧ sx_CV h 3 c (c + 3) (c + 4) C := ⟨(hB.2.2.2.2.2.2.2.1 _ _ _ hi.2).1, (hB.2.2.2.2.2.2.2.1 _ _ _ hi.2).2.2⟩
theorem sx_rdA_of {a : Nat} {rs : List (Option Nat)} {x : Int} {o : Option Nat} (e : sx_get h a = some (.inr (.inl (0, rs)))) (hx : 0 ≤ x ∧ x ≤ 1000) (hr : rs[x.toNat]? = some o) : sx_rdA h a (sz x) = some o := by
  unfold sx_rdA
  rw [e]
  have := (List.getElem?_eq_some_iff.mp hr).1
  dsimp only
  rw [sz_clamp (by omega), if_neg (by rw [sz_lt0 (by omega)]; omega), List.getD_eq_getElem?_getD, hr]
  rfl
theorem o_clothOf (hB : sx_BV h n tl ws L) (hi : 0 ≤ i ∧ L[i.toNat]? = some (c, C)) : sx_Cl S 70 [.ref 2, .int (sz i)] h = some (.inl (some (.ref c)), h) := by
  obtain ⟨f0, f1, f3, f4, f5, f6, f8, f10, f11, k2, k3, k11, k13, k15, hl⟩ := hB.g
  have hlt := (List.getElem?_eq_some_iff.mp hi.2).1
  have hr : (sx_CL L)[i.toNat]? = some (some c) := by
    unfold sx_CL
    rw [List.getElem?_append_left (by rw [List.length_map]; exact hlt), List.getElem?_map, hi.2]
    rfl
  have hrd := sx_rdA_of hB.2.1 (by omega) hr
  have hrf : sx_rf (some c) = .ref c := rfl
  simp (disch := omega) only [c70_q, q70, f1, f6, Option.bind_some, sz_lt0, sz_lt, sz_0lt, sz_mul, sz_add, sz_sub, sz_eq0, sz_eq, sz_nat, List.length_map, nb0, nb1, bz_eq0, ↓reduceIte, Int.reduceEq, Int.reduceLT, Int.reduceAdd, Int.reduceSub, Int.reduceMul, Int.reduceNeg]
  rw [if_neg (by omega), if_pos (by omega), if_pos (by omega), hrd]
  simp only [Option.bind_some, hrf, q70]
theorem o_clothOf_no (hB : sx_BV h n tl ws L) (hi : (L.length : Int) ≤ i ∧ i ≤ 1000) : sx_Cl S 70 [.ref 2, .int (sz i)] h = some (.inr 2, sx_push h none 6) := by
  obtain ⟨f0, f1, f3, f4, f5, f6, f8, f10, f11, k2, k3, k11, k13, k15, hl⟩ := hB.g
  have hn : ∀ l0 l1 : Option Value, sx_Ev S 70 29 [l0, l1, some .null] [] h = sx_Ev S 70 30 [l0, l1, some .null] [.null] h := fun _ _ => sx_e_nx rfl rfl
  simp (disch := omega) only [c70_q, q70, f1, f6, hn, Option.bind_some, sz_lt0, sz_lt, sz_0lt, sz_mul, sz_add, sz_sub, sz_eq0, sz_eq, sz_nat, List.length_map, nb0, nb1, bz_eq0, ↓reduceIte, Int.reduceEq, Int.reduceLT, Int.reduceAdd, Int.reduceSub, Int.reduceMul, Int.reduceNeg]
  rw [if_neg (by omega), if_neg (by omega)]
theorem o_range {v a b : Int} (hv : a ≤ v ∧ v ≤ b) (ha : -1000000 ≤ a) (hb : b ≤ 1000000) : sx_Cl S 66 [.int (sz v), .int (sz a), .int (sz b)] h = some (.inl none, h) := by
  simp (disch := omega) only [c66_q, q66, Option.bind_some, sz_lt0, sz_lt, sz_0lt, sz_mul, sz_add, sz_sub, sz_eq0, sz_eq, sz_nat, List.length_map, nb0, nb1, bz_eq0, ↓reduceIte, Int.reduceEq, Int.reduceLT, Int.reduceAdd, Int.reduceSub, Int.reduceMul, Int.reduceNeg]
  rw [if_neg (by omega), if_neg (by omega)]
theorem o_range_no {v a b : Int} (hv : v < a ∨ b < v) (hb : (-1000000 ≤ v ∧ v ≤ 1000000) ∧ (-1000000 ≤ a ∧ a ≤ 1000000) ∧ (-1000000 ≤ b ∧ b ≤ 1000000)) : sx_Cl S 66 [.int (sz v), .int (sz a), .int (sz b)] h = some (.inr 0, sx_push h none 6) := by
  simp (disch := omega) only [c66_q, q66, Option.bind_some, sz_lt0, sz_lt, sz_0lt, sz_mul, sz_add, sz_sub, sz_eq0, sz_eq, sz_nat, List.length_map, nb0, nb1, bz_eq0, ↓reduceIte, Int.reduceEq, Int.reduceLT, Int.reduceAdd, Int.reduceSub, Int.reduceMul, Int.reduceNeg]
  by_cases q : v < a
  · rw [if_pos q]
  · rw [if_neg q, if_pos (by omega)]
theorem o_place {K p q : Nat} (hC : sx_CV h K c p q C) {r x : Int} (hr : 0 ≤ r ∧ r < C.nr) (hx : 0 ≤ x ∧ x < C.nc) : sx_Cl S 71 [.ref c, .int (sz r), .int (sz x)] h = some (.inl none, h) := by
  obtain ⟨f0, f1, f2, f3, f5, f6, f9, f10, fk, i5, i6⟩ := hC.f (S := S)
  obtain ⟨⟨a1, a2⟩, ⟨a3, a4⟩, a5, a6, a7, a8⟩ := hC.1
  have b2 := mulN_bd a4 a2
  have n0 := nb0
  have n1 := nb1
  have e := m_hasPlace (S := S) hC (r := r) (x := x) (by omega) (by omega)
  rw [decide_eq_true ⟨hr, hx⟩] at e
  simp (disch := omega) only [c71_q, q71, e, Option.bind_some, sz_lt0, sz_lt, sz_0lt, sz_mul, sz_add, sz_sub, sz_eq0, sz_eq, sz_nat, List.length_map, nb0, nb1, bz_eq0, ↓reduceIte, Int.reduceEq, Int.reduceLT, Int.reduceAdd, Int.reduceSub, Int.reduceMul, Int.reduceNeg]
  rw [if_neg (by simp)]
theorem o_place_no {K p q : Nat} (hC : sx_CV h K c p q C) {r x : Int} (hb : (-1000 ≤ r ∧ r ≤ 1000) ∧ -1000 ≤ x ∧ x ≤ 1000) (hn : ¬ ((0 ≤ r ∧ r < C.nr) ∧ (0 ≤ x ∧ x < C.nc))) : sx_Cl S 71 [.ref c, .int (sz r), .int (sz x)] h = some (.inr 2, sx_push h none 6) := by
  obtain ⟨f0, f1, f2, f3, f5, f6, f9, f10, fk, i5, i6⟩ := hC.f (S := S)
  obtain ⟨⟨a1, a2⟩, ⟨a3, a4⟩, a5, a6, a7, a8⟩ := hC.1
  have b2 := mulN_bd a4 a2
  have n0 := nb0
  have n1 := nb1
  have e := m_hasPlace (S := S) hC (r := r) (x := x) (by omega) (by omega)
  rw [decide_eq_false hn] at e
  simp (disch := omega) only [c71_q, q71, e, Option.bind_some, sz_lt0, sz_lt, sz_0lt, sz_mul, sz_add, sz_sub, sz_eq0, sz_eq, sz_nat, List.length_map, nb0, nb1, bz_eq0, ↓reduceIte, Int.reduceEq, Int.reduceLT, Int.reduceAdd, Int.reduceSub, Int.reduceMul, Int.reduceNeg]
theorem o_kind (hB : sx_BV h 4 tl ws L) {k : Int} (hk : 0 ≤ k ∧ k < 4) : sx_Cl S 72 [.ref 2, .int (sz k)] h = some (.inl none, h) := by
  obtain ⟨f0, f1, f3, f4, f5, f6, f8, f10, f11, k2, k3, k11, k13, k15, hl⟩ := hB.g
  have e := m_has (S := S) hB.2.2.1.kv (k := k) (by omega)
  rw [decide_eq_true hk] at e
  simp (disch := omega) only [c72_q, q72, f0, e, Option.bind_some, sz_lt0, sz_lt, sz_0lt, sz_mul, sz_add, sz_sub, sz_eq0, sz_eq, sz_nat, List.length_map, nb0, nb1, bz_eq0, ↓reduceIte, Int.reduceEq, Int.reduceLT, Int.reduceAdd, Int.reduceSub, Int.reduceMul, Int.reduceNeg]
  rw [if_neg (by simp)]
theorem o_kind_no (hB : sx_BV h 4 tl ws L) {k : Int} (hk : -1000 ≤ k ∧ k ≤ 1000) (hn : ¬ (0 ≤ k ∧ k < 4)) : sx_Cl S 72 [.ref 2, .int (sz k)] h = some (.inr 2, sx_push h none 6) := by
  obtain ⟨f0, f1, f3, f4, f5, f6, f8, f10, f11, k2, k3, k11, k13, k15, hl⟩ := hB.g
  have e := m_has (S := S) hB.2.2.1.kv (k := k) (by omega)
  rw [decide_eq_false hn] at e
  simp (disch := omega) only [c72_q, q72, f0, e, Option.bind_some, sz_lt0, sz_lt, sz_0lt, sz_mul, sz_add, sz_sub, sz_eq0, sz_eq, sz_nat, List.length_map, nb0, nb1, bz_eq0, ↓reduceIte, Int.reduceEq, Int.reduceLT, Int.reduceAdd, Int.reduceSub, Int.reduceMul, Int.reduceNeg]
theorem o_drawn {K p q : Nat} (hC : sx_CV h K c p q C) : sx_Cl S 73 [.ref c] h = some (.inl none, h) := by
  obtain ⟨f0, f1, f2, f3, f5, f6, f9, f10, fk, i5, i6⟩ := hC.f (S := S)
  obtain ⟨⟨a1, a2⟩, ⟨a3, a4⟩, a5, a6, a7, a8⟩ := hC.1
  have b2 := mulN_bd a4 a2
  have n0 := nb0
  have n1 := nb1
  simp (disch := omega) only [c73_q, q73, f9, Option.bind_some, sz_lt0, sz_lt, sz_0lt, sz_mul, sz_add, sz_sub, sz_eq0, sz_eq, sz_nat, List.length_map, nb0, nb1, bz_eq0, ↓reduceIte, Int.reduceEq, Int.reduceLT, Int.reduceAdd, Int.reduceSub, Int.reduceMul, Int.reduceNeg]
theorem o_row {K p q : Nat} (hC : sx_CV h K c p q C) {r : Int} (hr : 0 ≤ r ∧ r < C.nr) : sx_Cl S 85 [.ref c, .int (sz r)] h = some (.inl none, h) := by
  obtain ⟨f0, f1, f2, f3, f5, f6, f9, f10, fk, i5, i6⟩ := hC.f (S := S)
  obtain ⟨⟨a1, a2⟩, ⟨a3, a4⟩, a5, a6, a7, a8⟩ := hC.1
  have b2 := mulN_bd a4 a2
  have n0 := nb0
  have n1 := nb1
  simp (disch := omega) only [c85_q, q85, f3, Option.bind_some, sz_lt0, sz_lt, sz_0lt, sz_mul, sz_add, sz_sub, sz_eq0, sz_eq, sz_nat, List.length_map, nb0, nb1, bz_eq0, ↓reduceIte, Int.reduceEq, Int.reduceLT, Int.reduceAdd, Int.reduceSub, Int.reduceMul, Int.reduceNeg]
  rw [if_neg (by omega), if_pos (by omega)]
theorem o_full {K p q : Nat} (hC : sx_CV h K c p q C) (he : C.many (-1) = 0) : sx_Cl S 82 [.ref c] h = some (.inl none, h) := by
  obtain ⟨f0, f1, f2, f3, f5, f6, f9, f10, fk, i5, i6⟩ := hC.f (S := S)
  obtain ⟨⟨a1, a2⟩, ⟨a3, a4⟩, a5, a6, a7, a8⟩ := hC.1
  have b2 := mulN_bd a4 a2
  have n0 := nb0
  have n1 := nb1
  have e := m_countOf (S := S) hC (k := -1) (by omega)
  rw [he] at e
  simp (disch := omega) only [c82_q, q82, e, Option.bind_some, sz_lt0, sz_lt, sz_0lt, sz_mul, sz_add, sz_sub, sz_eq0, sz_eq, sz_nat, List.length_map, nb0, nb1, bz_eq0, ↓reduceIte, Int.reduceEq, Int.reduceLT, Int.reduceAdd, Int.reduceSub, Int.reduceMul, Int.reduceNeg]
theorem Clo.many_bd (hC : C.ok) (k : Int) : 0 ≤ C.many k ∧ C.many k ≤ 144 := by
  have := nsum_bd (f := fun j : Nat => if C.k j = k then (1 : Int) else 0) (a := 0) (b := 1) (by omega) (by omega) C.ks.length 0 (fun j _ _ => by split <;> omega)
  have e : C.many k = nsum (fun j : Nat => if C.k j = k then (1 : Int) else 0) 0 C.ks.length := rfl
  obtain ⟨⟨a1, a2⟩, ⟨a3, a4⟩, a5, -⟩ := hC
  have b2 := mulN_bd a4 a2
  omega
theorem o_full_no {K p q : Nat} (hC : sx_CV h K c p q C) (he : 0 < C.many (-1)) : sx_Cl S 82 [.ref c] h = some (.inr 3, sx_push h none 6) := by
  obtain ⟨f0, f1, f2, f3, f5, f6, f9, f10, fk, i5, i6⟩ := hC.f (S := S)
  obtain ⟨⟨a1, a2⟩, ⟨a3, a4⟩, a5, a6, a7, a8⟩ := hC.1
  have b2 := mulN_bd a4 a2
  have n0 := nb0
  have n1 := nb1
  have e := m_countOf (S := S) hC (k := -1) (by omega)
  have hb := Clo.many_bd hC.1 (-1)
  simp (disch := omega) only [c82_q, q82, e, Option.bind_some, sz_lt0, sz_lt, sz_0lt, sz_mul, sz_add, sz_sub, sz_eq0, sz_eq, sz_nat, List.length_map, nb0, nb1, bz_eq0, ↓reduceIte, Int.reduceEq, Int.reduceLT, Int.reduceAdd, Int.reduceSub, Int.reduceMul, Int.reduceNeg]
  rw [if_pos (by omega)]
/-! the law's own roads to them -/
theorem w_kindAt (hB : sx_BV h 4 tl ws L) (hi : 0 ≤ i ∧ L[i.toNat]? = some (c, C)) {r x : Int} (hr : 0 ≤ r ∧ r < C.nr) (hx : 0 ≤ x ∧ x < C.nc) : sx_Cl S 102 [.ref 2, .int (sz i), .int (sz r), .int (sz x)] h = some (.inl (some (.int (sz (C.k (r * C.nc + x))))), h) := by
  obtain ⟨f0, f1, f3, f4, f5, f6, f8, f10, f11, k2, k3, k11, k13, k15, hl⟩ := hB.g
  have hC := (hB.cl hi).2
  obtain ⟨⟨a1, a2⟩, ⟨a3, a4⟩, a5, a6, a7, a8⟩ := hC.1
  have fk : sx_klass h c = some 0 := (hC.f (S := S)).2.2.2.2.2.2.2.2.1
  have b3 := mul_bd (r := r) (nc := C.nc) (by omega) a2
  have e1 := o_clothOf (S := S) hB hi
  have e2 := o_place (S := S) hC hr hx
  have e3 := m_cellOf (S := S) hC (r := r) (x := x)
  have e4 := m_kindIn (S := S) hC (i := r * C.nc + x) (by omega)
  have e : sx_Cl S 75 [.ref 2, .int (sz i), .int (sz r), .int (sz x)] h = some (.inl (some (.int (sz (C.k (r * C.nc + x))))), h) := by
    simp (disch := omega) only [c75_q, q75, e1, e2, e3, e4, Option.bind_some, sz_lt0, sz_lt, sz_0lt, sz_mul, sz_add, sz_sub, sz_eq0, sz_eq, sz_nat, List.length_map, nb0, nb1, bz_eq0, ↓reduceIte, Int.reduceEq, Int.reduceLT, Int.reduceAdd, Int.reduceSub, Int.reduceMul, Int.reduceNeg]
  simp (disch := omega) only [c102_q, q102, e, Option.bind_some, sz_lt0, sz_lt, sz_0lt, sz_mul, sz_add, sz_sub, sz_eq0, sz_eq, sz_nat, List.length_map, nb0, nb1, bz_eq0, ↓reduceIte, Int.reduceEq, Int.reduceLT, Int.reduceAdd, Int.reduceSub, Int.reduceMul, Int.reduceNeg]
theorem w_kindAt_no (hB : sx_BV h n tl ws L) (hi : (L.length : Int) ≤ i ∧ i ≤ 1000) {r x : Int} : sx_Cl S 102 [.ref 2, .int (sz i), .int (sz r), .int (sz x)] h = some (.inl (some (.int (sz (-900001)))), sx_push h none 6) := by
  obtain ⟨f0, f1, f3, f4, f5, f6, f8, f10, f11, k2, k3, k11, k13, k15, hl⟩ := hB.g
  have e1 := o_clothOf_no (S := S) hB hi
  have e : sx_Cl S 75 [.ref 2, .int (sz i), .int (sz r), .int (sz x)] h = some (.inr 2, sx_push h none 6) := by
    simp (disch := omega) only [c75_q, q75, e1, Option.bind_some, sz_lt0, sz_lt, sz_0lt, sz_mul, sz_add, sz_sub, sz_eq0, sz_eq, sz_nat, List.length_map, nb0, nb1, bz_eq0, ↓reduceIte, Int.reduceEq, Int.reduceLT, Int.reduceAdd, Int.reduceSub, Int.reduceMul, Int.reduceNeg]
  simp (disch := omega) only [c102_q, q102, e, Option.bind_some, sz_lt0, sz_lt, sz_0lt, sz_mul, sz_add, sz_sub, sz_eq0, sz_eq, sz_nat, List.length_map, nb0, nb1, bz_eq0, ↓reduceIte, Int.reduceEq, Int.reduceLT, Int.reduceAdd, Int.reduceSub, Int.reduceMul, Int.reduceNeg]
theorem w_draw (hB : sx_BV h 4 tl ws L) (hi : 0 ≤ i ∧ L[i.toNat]? = some (c, C)) {r x k : Int} (hr : 0 ≤ r ∧ r < C.nr) (hx : 0 ≤ x ∧ x < C.nc) (hk : -1 ≤ k ∧ k < 4) :
    ∃ h', sx_Cl S 101 [.ref 2, .int (sz i), .int (sz r), .int (sz x), .int (sz k)] h = some (.inl (some (.int (sz (C.k (r * C.nc + x))))), h') ∧ sx_BV h' 4 tl ws (L.set i.toNat (c, C.set (r * C.nc + x) k)) ∧ sx_gr (fun a => a = c + 3 ∨ a = c + 4) 0 0 h h' := by
  obtain ⟨f0, f1, f3, f4, f5, f6, f8, f10, f11, k2, k3, k11, k13, k15, hl⟩ := hB.g
  have hc := (hB.cl hi).1
  have hC := (hB.cl hi).2
  obtain ⟨⟨a1, a2⟩, ⟨a3, a4⟩, a5, a6, a7, a8⟩ := hC.1
  have fk : sx_klass h c = some 0 := (hC.f (S := S)).2.2.2.2.2.2.2.2.1
  have b3 := mul_bd (r := r) (nc := C.nc) (by omega) a2
  have e1 := o_clothOf (S := S) hB hi
  have e2 := o_place (S := S) hC hr hx
  have e3 := m_cellOf (S := S) hC (r := r) (x := x)
  have e4 := m_kindIn (S := S) hC (i := r * C.nc + x) (by omega)
  have e5 := o_drawn (S := S) hC
  have hin := idx_in ⟨hr, hx⟩
  obtain ⟨h', p1, p2, p3, p4, p5, p6⟩ := m_put (S := S) hB.2.2.1.kv hC (by omega) (i := r * C.nc + x) (k := k) (by rw [a5]; exact hin) hk
  refine ⟨h', ?_, hB.upd hi.2 p4 (fun a q => by omega) ?_ p2, p4, p5, p6⟩
  · have e : sx_Cl S 74 [.ref 2, .int (sz i), .int (sz r), .int (sz x), .int (sz k)] h = some (.inl (some (.int (sz (C.k (r * C.nc + x))))), h') := by
      by_cases q : k = -1
      · simp (disch := omega) only [c74_q, q74, e1, e2, e3, e4, e5, p1, Option.bind_some, sz_lt0, sz_lt, sz_0lt, sz_mul, sz_add, sz_sub, sz_eq0, sz_eq, sz_nat, List.length_map, nb0, nb1, bz_eq0, ↓reduceIte, Int.reduceEq, Int.reduceLT, Int.reduceAdd, Int.reduceSub, Int.reduceMul, Int.reduceNeg]
        rw [if_pos q]
      · have e6 := o_kind (S := S) hB (k := k) (by omega)
        simp (disch := omega) only [c74_q, q74, e1, e2, e3, e4, e5, e6, p1, Option.bind_some, sz_lt0, sz_lt, sz_0lt, sz_mul, sz_add, sz_sub, sz_eq0, sz_eq, sz_nat, List.length_map, nb0, nb1, bz_eq0, ↓reduceIte, Int.reduceEq, Int.reduceLT, Int.reduceAdd, Int.reduceSub, Int.reduceMul, Int.reduceNeg]
        rw [if_neg q]
    simp (disch := omega) only [c101_q, q101, e, Option.bind_some, sz_lt0, sz_lt, sz_0lt, sz_mul, sz_add, sz_sub, sz_eq0, sz_eq, sz_nat, List.length_map, nb0, nb1, bz_eq0, ↓reduceIte, Int.reduceEq, Int.reduceLT, Int.reduceAdd, Int.reduceSub, Int.reduceMul, Int.reduceNeg]
  · obtain ⟨m, es, hF⟩ := hB.2.2.2.2.2.1
    exact ⟨m, es, hF.kp p4 (by omega) (by omega)⟩
theorem w_draw_place (hB : sx_BV h 4 tl ws L) (hi : 0 ≤ i ∧ L[i.toNat]? = some (c, C)) {r x k : Int} (hb : (-1000 ≤ r ∧ r ≤ 1000) ∧ -1000 ≤ x ∧ x ≤ 1000) (hn : ¬ ((0 ≤ r ∧ r < C.nr) ∧ (0 ≤ x ∧ x < C.nc))) :
    sx_Cl S 101 [.ref 2, .int (sz i), .int (sz r), .int (sz x), .int (sz k)] h = some (.inl (some (.int (sz (-900001)))), sx_push h none 6) := by
  obtain ⟨f0, f1, f3, f4, f5, f6, f8, f10, f11, k2, k3, k11, k13, k15, hl⟩ := hB.g
  have e1 := o_clothOf (S := S) hB hi
  have e2 := o_place_no (S := S) (hB.cl hi).2 hb hn
  have e : sx_Cl S 74 [.ref 2, .int (sz i), .int (sz r), .int (sz x), .int (sz k)] h = some (.inr 2, sx_push h none 6) := by
    simp (disch := omega) only [c74_q, q74, e1, e2, Option.bind_some, sz_lt0, sz_lt, sz_0lt, sz_mul, sz_add, sz_sub, sz_eq0, sz_eq, sz_nat, List.length_map, nb0, nb1, bz_eq0, ↓reduceIte, Int.reduceEq, Int.reduceLT, Int.reduceAdd, Int.reduceSub, Int.reduceMul, Int.reduceNeg]
  simp (disch := omega) only [c101_q, q101, e, Option.bind_some, sz_lt0, sz_lt, sz_0lt, sz_mul, sz_add, sz_sub, sz_eq0, sz_eq, sz_nat, List.length_map, nb0, nb1, bz_eq0, ↓reduceIte, Int.reduceEq, Int.reduceLT, Int.reduceAdd, Int.reduceSub, Int.reduceMul, Int.reduceNeg]
theorem w_draw_kind (hB : sx_BV h 4 tl ws L) (hi : 0 ≤ i ∧ L[i.toNat]? = some (c, C)) {r x k : Int} (hr : 0 ≤ r ∧ r < C.nr) (hx : 0 ≤ x ∧ x < C.nc) (hk : 4 ≤ k ∧ k ≤ 1000) :
    sx_Cl S 101 [.ref 2, .int (sz i), .int (sz r), .int (sz x), .int (sz k)] h = some (.inl (some (.int (sz (-900001)))), sx_push h none 6) := by
  obtain ⟨f0, f1, f3, f4, f5, f6, f8, f10, f11, k2, k3, k11, k13, k15, hl⟩ := hB.g
  have e1 := o_clothOf (S := S) hB hi
  have e2 := o_place (S := S) (hB.cl hi).2 hr hx
  have e3 := o_kind_no (S := S) hB (k := k) (by omega) (by omega)
  have e : sx_Cl S 74 [.ref 2, .int (sz i), .int (sz r), .int (sz x), .int (sz k)] h = some (.inr 2, sx_push h none 6) := by
    simp (disch := omega) only [c74_q, q74, e1, e2, e3, Option.bind_some, sz_lt0, sz_lt, sz_0lt, sz_mul, sz_add, sz_sub, sz_eq0, sz_eq, sz_nat, List.length_map, nb0, nb1, bz_eq0, ↓reduceIte, Int.reduceEq, Int.reduceLT, Int.reduceAdd, Int.reduceSub, Int.reduceMul, Int.reduceNeg]
    rw [if_neg (by omega)]
  simp (disch := omega) only [c101_q, q101, e, Option.bind_some, sz_lt0, sz_lt, sz_0lt, sz_mul, sz_add, sz_sub, sz_eq0, sz_eq, sz_nat, List.length_map, nb0, nb1, bz_eq0, ↓reduceIte, Int.reduceEq, Int.reduceLT, Int.reduceAdd, Int.reduceSub, Int.reduceMul, Int.reduceNeg]
theorem w_thread (hB : sx_BV h n 0 ws L) : ∃ h', sx_Cl S 99 [.ref 2, .int (sz 9999)] h = some (.inl (some (.int (sz 9999))), h') ∧ sx_BV h' n 9999 ws L ∧ sx_gr (· = 2) 0 0 h h' := by
  obtain ⟨f0, f1, f3, f4, f5, f6, f8, f10, f11, k2, k3, k11, k13, k15, hl⟩ := hB.g
  have e1 := o_range (S := S) (h := h) (v := 9999) (a := 0) (b := 9999) (by omega) (by omega) (by omega)
  obtain ⟨h', p1, p2, p3⟩ := sx_pf (f := 8) (v := .int (sz 9999)) hB.1 (by exact (by decide : (8:Nat) < 12))
  have g8 := sx_fld_of (f := 8) p2 rfl
  refine ⟨h', ?_, ?_, p3⟩
  · have e : sx_Cl S 68 [.ref 2, .int (sz 9999)] h = some (.inl (some (.int (sz 9999))), h') := by
      simp (disch := omega) only [c68_q, q68, e1, f8, p1, g8, Option.bind_some, sz_lt0, sz_lt, sz_0lt, sz_mul, sz_add, sz_sub, sz_eq0, sz_eq, sz_nat, List.length_map, nb0, nb1, bz_eq0, ↓reduceIte, Int.reduceEq, Int.reduceLT, Int.reduceAdd, Int.reduceSub, Int.reduceMul, Int.reduceNeg]
    simp (disch := omega) only [c99_q, q99, e, Option.bind_some, sz_lt0, sz_lt, sz_0lt, sz_mul, sz_add, sz_sub, sz_eq0, sz_eq, sz_nat, List.length_map, nb0, nb1, bz_eq0, ↓reduceIte, Int.reduceEq, Int.reduceLT, Int.reduceAdd, Int.reduceSub, Int.reduceMul, Int.reduceNeg]
  · have hnw := p3.nw
    obtain ⟨e1, e2, e3, e4, ⟨e5, e6⟩, ⟨m, es, e7⟩, e8, e9, ea, eb⟩ := hB
    exact ⟨p2, p3.1.2.2 _ _ (by decide) e2, e3.kp p3.1 (fun a _ _ => by omega), p3.1.2.2 _ _ (by decide) e4, ⟨p3.1.2.2 _ _ (by decide) e5, p3.1.2.2 _ _ (by decide) e6⟩, ⟨m, es, e7.kp p3.1 (by decide) (by decide)⟩, e8, fun j d D hj => ⟨(e9 j d D hj).1, by have := (e9 j d D hj).2.1; omega, by have := (e9 j d D hj).1; exact (e9 j d D hj).2.2.kp p3.1 (by omega) (by omega) (by omega)⟩, ea, by omega⟩
theorem w_setRules (hB : sx_BV h 4 tl ws L) (hi : 0 ≤ i ∧ L[i.toNat]? = some (c, C)) {u : Int} (hu : 0 ≤ u ∧ u ≤ 15) :
    ∃ h', sx_Cl S 104 [.ref 2, .int (sz i), .int (sz u)] h = some (.inl (some (.int (sz C.ru))), h') ∧ sx_BV h' 4 tl ws (L.set i.toNat (c, (C.st, C.nc, C.nr, C.ks, u))) ∧ sx_gr (· = c) 0 0 h h' := by
  obtain ⟨f0, f1, f3, f4, f5, f6, f8, f10, f11, k2, k3, k11, k13, k15, hl⟩ := hB.g
  have hc := (hB.cl hi).1
  obtain ⟨hok, ⟨v4, v7, v8, g1⟩, g2, g3⟩ := (hB.cl hi).2
  have e1 := o_clothOf (S := S) hB hi
  have e2 := o_range (S := S) (h := h) (v := u) (a := 0) (b := 15) hu (by omega) (by omega)
  have r0 := sx_fld_of (f := 10) g1 rfl
  obtain ⟨h', p1, p2, p3⟩ := sx_pf (f := 10) (v := .int (sz u)) g1 (by exact (by decide : (10:Nat) < 11))
  refine ⟨h', ?_, hB.upd hi.2 p3.1 (fun a q => by omega) ?_ ⟨⟨hok.1, hok.2.1, hok.2.2.1, hok.2.2.2.1, hu, hok.2.2.2.2.2⟩, ⟨v4, v7, v8, p2⟩, p3.1.2.2 _ _ (by omega) g2, p3.1.2.2 _ _ (by omega) g3⟩, p3⟩
  · have e : sx_Cl S 77 [.ref 2, .int (sz i), .int (sz u)] h = some (.inl (some (.int (sz C.ru))), h') := by
      simp (disch := omega) only [c77_q, q77, e1, e2, r0, p1, Option.bind_some, sz_lt0, sz_lt, sz_0lt, sz_mul, sz_add, sz_sub, sz_eq0, sz_eq, sz_nat, List.length_map, nb0, nb1, bz_eq0, ↓reduceIte, Int.reduceEq, Int.reduceLT, Int.reduceAdd, Int.reduceSub, Int.reduceMul, Int.reduceNeg]
    simp (disch := omega) only [c104_q, q104, e, Option.bind_some, sz_lt0, sz_lt, sz_0lt, sz_mul, sz_add, sz_sub, sz_eq0, sz_eq, sz_nat, List.length_map, nb0, nb1, bz_eq0, ↓reduceIte, Int.reduceEq, Int.reduceLT, Int.reduceAdd, Int.reduceSub, Int.reduceMul, Int.reduceNeg]
  · obtain ⟨m, es, hF⟩ := hB.2.2.2.2.2.1
    exact ⟨m, es, hF.kp p3.1 (by omega) (by omega)⟩
theorem w_setRules_no (hB : sx_BV h 4 tl ws L) (hi : 0 ≤ i ∧ L[i.toNat]? = some (c, C)) {u : Int} (hu : 16 ≤ u ∧ u ≤ 1000) :
    sx_Cl S 104 [.ref 2, .int (sz i), .int (sz u)] h = some (.inl (some (.int (sz (-900002)))), sx_push h none 6) := by
  obtain ⟨f0, f1, f3, f4, f5, f6, f8, f10, f11, k2, k3, k11, k13, k15, hl⟩ := hB.g
  have e1 := o_clothOf (S := S) hB hi
  have e2 := o_range_no (S := S) (h := h) (v := u) (a := 0) (b := 15) (by omega) (by omega)
  have e : sx_Cl S 77 [.ref 2, .int (sz i), .int (sz u)] h = some (.inr 0, sx_push h none 6) := by
    simp (disch := omega) only [c77_q, q77, e1, e2, Option.bind_some, sz_lt0, sz_lt, sz_0lt, sz_mul, sz_add, sz_sub, sz_eq0, sz_eq, sz_nat, List.length_map, nb0, nb1, bz_eq0, ↓reduceIte, Int.reduceEq, Int.reduceLT, Int.reduceAdd, Int.reduceSub, Int.reduceMul, Int.reduceNeg]
  simp (disch := omega) only [c104_q, q104, e, Option.bind_some, sz_lt0, sz_lt, sz_0lt, sz_mul, sz_add, sz_sub, sz_eq0, sz_eq, sz_nat, List.length_map, nb0, nb1, bz_eq0, ↓reduceIte, Int.reduceEq, Int.reduceLT, Int.reduceAdd, Int.reduceSub, Int.reduceMul, Int.reduceNeg]
theorem w_broken (hB : sx_BV h 4 tl ws L) (hi : 0 ≤ i ∧ L[i.toNat]? = some (c, C)) {u : Int} (hu : u = 1 ∨ u = 2 ∨ u = 4 ∨ u = 8) :
    sx_Cl S 105 [.ref 2, .int (sz i), .int (sz u)] h = some (.inl (some (.int (sz (C.br u)))), h) := by
  obtain ⟨f0, f1, f3, f4, f5, f6, f8, f10, f11, k2, k3, k11, k13, k15, hl⟩ := hB.g
  have e1 := o_clothOf (S := S) hB hi
  have e2 := m_br (S := S) (hB.cl hi).2 hu
  have n0 := nb0
  have n1 := nb1
  have e3 : sx_Cl S 58 [.int (sz u)] h = some (.inl (some (.int (sz 1))), h) := by
    simp (disch := omega) only [c58_q, q58, Option.bind_some, sz_lt0, sz_lt, sz_0lt, sz_mul, sz_add, sz_sub, sz_eq0, sz_eq, sz_nat, List.length_map, nb0, nb1, bz_eq0, ↓reduceIte, Int.reduceEq, Int.reduceLT, Int.reduceAdd, Int.reduceSub, Int.reduceMul, Int.reduceNeg]
    repeat' split
    all_goals first | rfl | omega
  have e : sx_Cl S 78 [.ref 2, .int (sz i), .int (sz u)] h = some (.inl (some (.int (sz (C.br u)))), h) := by
    simp (disch := omega) only [c78_q, q78, e1, e2, e3, Option.bind_some, sz_lt0, sz_lt, sz_0lt, sz_mul, sz_add, sz_sub, sz_eq0, sz_eq, sz_nat, List.length_map, nb0, nb1, bz_eq0, ↓reduceIte, Int.reduceEq, Int.reduceLT, Int.reduceAdd, Int.reduceSub, Int.reduceMul, Int.reduceNeg]
  simp (disch := omega) only [c105_q, q105, e, Option.bind_some, sz_lt0, sz_lt, sz_0lt, sz_mul, sz_add, sz_sub, sz_eq0, sz_eq, sz_nat, List.length_map, nb0, nb1, bz_eq0, ↓reduceIte, Int.reduceEq, Int.reduceLT, Int.reduceAdd, Int.reduceSub, Int.reduceMul, Int.reduceNeg]
theorem w_broken_no (hB : sx_BV h 4 tl ws L) (hi : 0 ≤ i ∧ L[i.toNat]? = some (c, C)) :
    sx_Cl S 105 [.ref 2, .int (sz i), .int (sz 3)] h = some (.inl (some (.int (sz (-900002)))), sx_push h none 6) := by
  obtain ⟨f0, f1, f3, f4, f5, f6, f8, f10, f11, k2, k3, k11, k13, k15, hl⟩ := hB.g
  have e1 := o_clothOf (S := S) hB hi
  have n0 := nb0
  have n1 := nb1
  have e3 : sx_Cl S 58 [.int (sz 3)] h = some (.inl (some (.int (sz 0))), h) := by
    simp (disch := omega) only [c58_q, q58, Option.bind_some, sz_lt0, sz_lt, sz_0lt, sz_mul, sz_add, sz_sub, sz_eq0, sz_eq, sz_nat, List.length_map, nb0, nb1, bz_eq0, ↓reduceIte, Int.reduceEq, Int.reduceLT, Int.reduceAdd, Int.reduceSub, Int.reduceMul, Int.reduceNeg]
  have e : sx_Cl S 78 [.ref 2, .int (sz i), .int (sz 3)] h = some (.inr 0, sx_push h none 6) := by
    simp (disch := omega) only [c78_q, q78, e1, e3, Option.bind_some, sz_lt0, sz_lt, sz_0lt, sz_mul, sz_add, sz_sub, sz_eq0, sz_eq, sz_nat, List.length_map, nb0, nb1, bz_eq0, ↓reduceIte, Int.reduceEq, Int.reduceLT, Int.reduceAdd, Int.reduceSub, Int.reduceMul, Int.reduceNeg]
  simp (disch := omega) only [c105_q, q105, e, Option.bind_some, sz_lt0, sz_lt, sz_0lt, sz_mul, sz_add, sz_sub, sz_eq0, sz_eq, sz_nat, List.length_map, nb0, nb1, bz_eq0, ↓reduceIte, Int.reduceEq, Int.reduceLT, Int.reduceAdd, Int.reduceSub, Int.reduceMul, Int.reduceNeg]
end SXC1
