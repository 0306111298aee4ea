/-! THE PATH: that it ends, and what it keeps -/
def sx_PV (h : sx_H) (P X L : Nat) : Prop := L ≤ 1000 ∧ ∃ (n : Nat) (ys : List Int), n ≤ L ∧ ys.length = L ∧ (∀ y ∈ ys, -20000 ≤ y ∧ y ≤ 20000) ∧ sx_get h P = some (.inr (.inr (3, [.ref X, .int (sz n)]))) ∧ sx_get h X = some (.inl (ys.map sz))
theorem sx_PV.k {h : sx_H} {P X L : Nat} (hP : sx_PV h P X L) : sx_klass h P = some 3 := by
  obtain ⟨-, n, ys, -, -, -, e, -⟩ := hP
  exact sx_klass_of e
theorem sx_PV.kp {h h1 : sx_H} {P X L : Nat} {A : Nat → Prop} (hP : sx_PV h P X L) (hk : sx_kp A h h1) (n1 : ¬ A P) (n2 : ¬ A X) : sx_PV h1 P X L := by
  obtain ⟨e0, n, ys, e1, e2, e3, e4, e5⟩ := hP
  exact ⟨e0, n, ys, e1, e2, e3, hk.2.2 _ _ n1 e4, hk.2.2 _ _ n2 e5⟩
section SXQ
variable {S : List Int32} {h : sx_H} {P X L : Nat}
theorem m_go (hP : sx_PV h P X L) {v : Int} (hv : -20000 ≤ v ∧ v ≤ 20000) : ∃ h', sx_Cl S 13 [.ref P, .int (sz v)] h = some (.inl none, h') ∧ sx_PV h' P X L ∧ sx_gr (fun a => a = P ∨ a = X) 0 0 h h' := by
  obtain ⟨hL, n, ys, hn, hl, hy, e1, e2⟩ := id hP
  have f0 := sx_fld_of (f := 0) e1 rfl
  have f1 := sx_fld_of (f := 1) e1 rfl
  have i0 := sx_ints_of (S := S) e2
  have hPX : P ≠ X := sx_get_ne e1 e2 (by intro q; cases q)
  by_cases hlt : n < L
  · have w := sx_wr_of (x := (n : Int)) (v := v) e2 (by omega) (by omega)
    rw [show (n : Int).toNat = n by omega] at w
    have e3 : sx_get (sx_set h X (.inl ((ys.set n v).map sz))) P = _ := sx_get_setn e1 (Ne.symm hPX) (sx_get_lt e2).1
    have e4 : sx_get (sx_set h X (.inl ((ys.set n v).map sz))) X = _ := sx_get_set e2
    generalize hg : sx_set h X (.inl ((ys.set n v).map sz)) = h1 at *
    have g1 : sx_gr (fun a => a = P ∨ a = X) 0 0 h h1 := by rw [← hg]; exact sx_gr.set e2 (Or.inr rfl)
    have k1 := sx_fld_of (f := 1) e3 rfl
    obtain ⟨h2, p1, p2, p3⟩ := sx_pf (f := 1) (v := .int (sz ((n + 1 : Nat) : Int))) e3 (by exact (by decide : (1:Nat) < 2))
    refine ⟨h2, ?_, ⟨hL, n + 1, ys.set n v, hlt, by rw [List.length_set]; exact hl, fun y hm => ?_, p2, p3.1.2.2 _ _ (Ne.symm hPX) e4⟩, g1.trans (p3.mono fun a q => Or.inl q)⟩
    · have hn1 : (n : Int) + 1 = ((n + 1 : Nat) : Int) := by omega
      simp (disch := omega) only [c13_q, q13, f0, f1, i0, hl, w, k1, hn1, p1, Option.bind_some, sz_lt0, sz_lt, sz_0lt, sz_mul, sz_add, sz_sub, sz_eq0, sz_eq, sz_nat, List.length_map, nb0, nb1, bz_eq0, ↓reduceIte, Int.reduceEq, Int.reduceLT, Int.reduceAdd, Int.reduceSub, Int.reduceMul, Int.reduceNeg]
      rw [if_pos (by omega)]
    · rcases List.mem_or_eq_of_mem_set hm with q | q
      · exact hy y q
      · rw [q]; exact hv
  · refine ⟨h, ?_, hP, sx_gr.refl h⟩
    simp (disch := omega) only [c13_q, q13, f0, f1, i0, hl, Option.bind_some, sz_lt0, sz_lt, sz_0lt, sz_mul, sz_add, sz_sub, sz_eq0, sz_eq, sz_nat, List.length_map, nb0, nb1, bz_eq0, ↓reduceIte, Int.reduceEq, Int.reduceLT, Int.reduceAdd, Int.reduceSub, Int.reduceMul, Int.reduceNeg]
    rw [if_neg (by omega)]
theorem m_gfb_1 {fi : Int} {nc : Nat} (hf : -15000 ≤ fi ∧ fi ≤ 15000) (hc : nc ≤ 12) : ∀ (n x : Nat) (h : sx_H), x + n = nc → sx_PV h P X L →
    ∃ h', sx_Ev S 14 2 [some (.ref P), some (.int (sz fi)), some (.int (sz nc)), some (.int (sz x))] [] h = sx_Ev S 14 24 [some (.ref P), some (.int (sz fi)), some (.int (sz nc)), some (.int (sz ((nc : Int) - 1)))] [] h' ∧ sx_PV h' P X L ∧ sx_gr (fun a => a = P ∨ a = X) 0 0 h h' := by
  intro n
  induction n with
  | zero =>
    intro x h hx hP
    refine ⟨h, ?_, hP, sx_gr.refl h⟩
    rw [h14_2]
    simp (disch := omega) only [q14, Option.bind_some, sz_lt0, sz_lt, sz_0lt, sz_mul, sz_add, sz_sub, sz_eq0, sz_eq, sz_nat, List.length_map, nb0, nb1, bz_eq0, ↓reduceIte, Int.reduceEq, Int.reduceLT, Int.reduceAdd, Int.reduceSub, Int.reduceMul, Int.reduceNeg]
    rw [if_neg (by omega)]
  | succ n ih =>
    intro x h hx hP
    have fk := hP.k
    have hx1 : (x : Int) + 1 = ((x + 1 : Nat) : Int) := by omega
    obtain ⟨h1, e1, p1, g1⟩ := m_go (S := S) hP (v := fi + x) (by omega)
    obtain ⟨h2, e2, p2, g2⟩ := ih (x + 1) h1 (by omega) p1
    refine ⟨h2, ?_, p2, g1.trans g2⟩
    rw [h14_2]
    simp (disch := omega) only [q14, fk, e1, hx1, Option.bind_some, sz_lt0, sz_lt, sz_0lt, sz_mul, sz_add, sz_sub, sz_eq0, sz_eq, sz_nat, List.length_map, nb0, nb1, bz_eq0, ↓reduceIte, Int.reduceEq, Int.reduceLT, Int.reduceAdd, Int.reduceSub, Int.reduceMul, Int.reduceNeg]
    rw [if_pos (by omega)]
    exact e2
theorem m_gfb_2 {fi : Int} {nc : Nat} (hf : -15000 ≤ fi ∧ fi ≤ 15000) (hc : nc ≤ 12) : ∀ (n : Nat) (x : Int) (h : sx_H), x + 1 = n → n ≤ 12 → sx_PV h P X L →
    ∃ h', sx_Ev S 14 24 [some (.ref P), some (.int (sz fi)), some (.int (sz nc)), some (.int (sz x))] [] h = some (.inl none, h') ∧ sx_PV h' P X L ∧ sx_gr (fun a => a = P ∨ a = X) 0 0 h h' := by
  intro n
  induction n with
  | zero =>
    intro x h hx hn hP
    refine ⟨h, ?_, hP, sx_gr.refl h⟩
    rw [h14_24]
    simp (disch := omega) only [q14, Option.bind_some, sz_lt0, sz_lt, sz_0lt, sz_mul, sz_add, sz_sub, sz_eq0, sz_eq, sz_nat, List.length_map, nb0, nb1, bz_eq0, ↓reduceIte, Int.reduceEq, Int.reduceLT, Int.reduceAdd, Int.reduceSub, Int.reduceMul, Int.reduceNeg]
    rw [if_pos (by omega)]
  | succ n ih =>
    intro x h hx hn hP
    have fk := hP.k
    have hx1 : x + -1 = x - 1 := by omega
    obtain ⟨h1, e1, p1, g1⟩ := m_go (S := S) hP (v := fi + x) (by omega)
    obtain ⟨h2, e2, p2, g2⟩ := ih (x - 1) h1 (by omega) (by omega) p1
    refine ⟨h2, ?_, p2, g1.trans g2⟩
    rw [h14_24]
    simp (disch := omega) only [q14, fk, e1, hx1, Option.bind_some, sz_lt0, sz_lt, sz_0lt, sz_mul, sz_add, sz_sub, sz_eq0, sz_eq, sz_nat, List.length_map, nb0, nb1, bz_eq0, ↓reduceIte, Int.reduceEq, Int.reduceLT, Int.reduceAdd, Int.reduceSub, Int.reduceMul, Int.reduceNeg]
    rw [if_neg (by omega)]
    exact e2
theorem m_gfb (hP : sx_PV h P X L) {fi : Int} {nc : Nat} (hf : -15000 ≤ fi ∧ fi ≤ 15000) (hc : nc ≤ 12) : ∃ h', sx_Cl S 14 [.ref P, .int (sz fi), .int (sz nc)] h = some (.inl none, h') ∧ sx_PV h' P X L ∧ sx_gr (fun a => a = P ∨ a = X) 0 0 h h' := by
  obtain ⟨h1, e1, p1, g1⟩ := m_gfb_1 (S := S) hf hc nc 0 h (by omega) hP
  obtain ⟨h2, e2, p2, g2⟩ := m_gfb_2 (S := S) hf hc nc ((nc : Int) - 1) h1 (by omega) hc p1
  refine ⟨h2, ?_, p2, g1.trans g2⟩
  simp (disch := omega) only [c14_q, q14, Option.bind_some, sz_lt0, sz_lt, sz_0lt, sz_mul, sz_add, sz_sub, sz_eq0, sz_eq, sz_nat, List.length_map, nb0, nb1, bz_eq0, ↓reduceIte, Int.reduceEq, Int.reduceLT, Int.reduceAdd, Int.reduceSub, Int.reduceMul, Int.reduceNeg]
  exact e1.trans e2
theorem m_even_l {r nc : Nat} (hr : r ≤ 12) (hc : nc ≤ 12) : ∀ (n x : Nat) (h : sx_H), nc ≤ x + n → x ≤ 20 → sx_PV h P X L →
    ∃ h', sx_Ev S 15 2 [some (.ref P), some (.int (sz r)), some (.int (sz nc)), some (.int (sz x))] [] h = some (.inl none, h') ∧ sx_PV h' P X L ∧ sx_gr (fun a => a = P ∨ a = X) 0 0 h h' := by
  intro n
  induction n with
  | zero =>
    intro x h hx hx2 hP
    refine ⟨h, ?_, hP, sx_gr.refl h⟩
    rw [h15_2]
    simp (disch := omega) only [q15, Option.bind_some, sz_lt0, sz_lt, sz_0lt, sz_mul, sz_add, sz_sub, sz_eq0, sz_eq, sz_nat, List.length_map, nb0, nb1, bz_eq0, ↓reduceIte, Int.reduceEq, Int.reduceLT, Int.reduceAdd, Int.reduceSub, Int.reduceMul, Int.reduceNeg]
    rw [if_neg (by omega)]
  | succ n ih =>
    intro x h hx hx2 hP
    have fk := hP.k
    have hx1 : (x : Int) + 2 = ((x + 2 : Nat) : Int) := by omega
    have b1 := mul_bd (r := (r : Int)) (nc := nc) (by omega) hc
    have b2 := mul_bd (r := (r : Int) - 1) (nc := nc) (by omega) hc
    by_cases hlt : x < nc
    · obtain ⟨h1, e1, p1, g1⟩ := m_go (S := S) hP (v := (r : Int) * nc + x) (by omega)
      have fk1 := p1.k
      by_cases hlt2 : 0 < r ∧ x + 1 < nc
      · obtain ⟨h2, e2, p2, g2⟩ := m_go (S := S) p1 (v := ((r : Int) - 1) * nc + x + 1) (by omega)
        obtain ⟨h3, e3, p3, g3⟩ := ih (x + 2) h2 (by omega) (by omega) p2
        refine ⟨h3, ?_, p3, g1.trans (g2.trans g3)⟩
        rw [h15_2]
        simp (disch := omega) only [q15, fk, e1, fk1, e2, hx1, Option.bind_some, sz_lt0, sz_lt, sz_0lt, sz_mul, sz_add, sz_sub, sz_eq0, sz_eq, sz_nat, List.length_map, nb0, nb1, bz_eq0, ↓reduceIte, Int.reduceEq, Int.reduceLT, Int.reduceAdd, Int.reduceSub, Int.reduceMul, Int.reduceNeg]
        rw [if_pos (by omega), if_pos (by omega), if_pos (by omega)]
        exact e3
      · obtain ⟨h3, e3, p3, g3⟩ := ih (x + 2) h1 (by omega) (by omega) p1
        refine ⟨h3, ?_, p3, g1.trans g3⟩
        rw [h15_2]
        simp (disch := omega) only [q15, fk, e1, fk1, hx1, Option.bind_some, sz_lt0, sz_lt, sz_0lt, sz_mul, sz_add, sz_sub, sz_eq0, sz_eq, sz_nat, List.length_map, nb0, nb1, bz_eq0, ↓reduceIte, Int.reduceEq, Int.reduceLT, Int.reduceAdd, Int.reduceSub, Int.reduceMul, Int.reduceNeg]
        rw [if_pos (by omega)]
        by_cases q : 0 < r
        · rw [if_pos (by omega), if_neg (by omega)]
          exact e3
        · rw [if_neg (by omega)]
          exact e3
    · refine ⟨h, ?_, hP, sx_gr.refl h⟩
      rw [h15_2]
      simp (disch := omega) only [q15, Option.bind_some, sz_lt0, sz_lt, sz_0lt, sz_mul, sz_add, sz_sub, sz_eq0, sz_eq, sz_nat, List.length_map, nb0, nb1, bz_eq0, ↓reduceIte, Int.reduceEq, Int.reduceLT, Int.reduceAdd, Int.reduceSub, Int.reduceMul, Int.reduceNeg]
      rw [if_neg (by omega)]
theorem m_even (hP : sx_PV h P X L) {r nc : Nat} (hr : r ≤ 12) (hc : nc ≤ 12) : ∃ h', sx_Cl S 15 [.ref P, .int (sz r), .int (sz nc)] h = some (.inl none, h') ∧ sx_PV h' P X L ∧ sx_gr (fun a => a = P ∨ a = X) 0 0 h h' := by
  obtain ⟨h1, e1, p1, g1⟩ := m_even_l (S := S) hr hc nc 0 h (by omega) (by omega) hP
  refine ⟨h1, ?_, p1, g1⟩
  simp (disch := omega) only [c15_q, q15, Option.bind_some, sz_lt0, sz_lt, sz_0lt, sz_mul, sz_add, sz_sub, sz_eq0, sz_eq, sz_nat, List.length_map, nb0, nb1, bz_eq0, ↓reduceIte, Int.reduceEq, Int.reduceLT, Int.reduceAdd, Int.reduceSub, Int.reduceMul, Int.reduceNeg]
  exact e1
theorem m_odd_l {fi : Int} {nc : Nat} (hf : -15000 ≤ fi ∧ fi ≤ 15000) (hc : nc ≤ 12) (l3 : Option Value) : ∀ (n : Nat) (x : Int) (h : sx_H), x ≤ n → -2 ≤ x ∧ x ≤ 12 → sx_PV h P X L →
    ∃ h', sx_Ev S 16 19 [some (.ref P), some (.int (sz fi)), some (.int (sz nc)), l3, some (.int (sz x))] [] h = some (.inl none, h') ∧ sx_PV h' P X L ∧ sx_gr (fun a => a = P ∨ a = X) 0 0 h h' := by
  intro n
  induction n with
  | zero =>
    intro x h hx hx2 hP
    refine ⟨h, ?_, hP, sx_gr.refl h⟩
    rw [h16_19]
    simp (disch := omega) only [q16, Option.bind_some, sz_lt0, sz_lt, sz_0lt, sz_mul, sz_add, sz_sub, sz_eq0, sz_eq, sz_nat, List.length_map, nb0, nb1, bz_eq0, ↓reduceIte, Int.reduceEq, Int.reduceLT, Int.reduceAdd, Int.reduceSub, Int.reduceMul, Int.reduceNeg]
    rw [if_neg (by omega)]
  | succ n ih =>
    intro x h hx hx2 hP
    have fk := hP.k
    have hx1 : x + -2 = x - 2 := by omega
    by_cases hlt : 0 < x
    · obtain ⟨h1, e1, p1, g1⟩ := m_go (S := S) hP (v := fi + x) (by omega)
      have fk1 := p1.k
      obtain ⟨h2, e2, p2, g2⟩ := m_go (S := S) p1 (v := fi + x - 1) (by omega)
      obtain ⟨h3, e3, p3, g3⟩ := ih (x - 2) h2 (by omega) (by omega) p2
      refine ⟨h3, ?_, p3, g1.trans (g2.trans g3)⟩
      rw [h16_19]
      simp (disch := omega) only [q16, fk, e1, fk1, e2, hx1, Option.bind_some, sz_lt0, sz_lt, sz_0lt, sz_mul, sz_add, sz_sub, sz_eq0, sz_eq, sz_nat, List.length_map, nb0, nb1, bz_eq0, ↓reduceIte, Int.reduceEq, Int.reduceLT, Int.reduceAdd, Int.reduceSub, Int.reduceMul, Int.reduceNeg]
      rw [if_pos (by omega)]
      exact e3
    · refine ⟨h, ?_, hP, sx_gr.refl h⟩
      rw [h16_19]
      simp (disch := omega) only [q16, Option.bind_some, sz_lt0, sz_lt, sz_0lt, sz_mul, sz_add, sz_sub, sz_eq0, sz_eq, sz_nat, List.length_map, nb0, nb1, bz_eq0, ↓reduceIte, Int.reduceEq, Int.reduceLT, Int.reduceAdd, Int.reduceSub, Int.reduceMul, Int.reduceNeg]
      rw [if_neg (by omega)]
theorem m_odd (hP : sx_PV h P X L) {fi : Int} {nc : Nat} (hf : -15000 ≤ fi ∧ fi ≤ 15000) (hc : nc ≤ 12) : ∃ h', sx_Cl S 16 [.ref P, .int (sz fi), .int (sz nc)] h = some (.inl none, h') ∧ sx_PV h' P X L ∧ sx_gr (fun a => a = P ∨ a = X) 0 0 h h' := by
  by_cases q : (nc : Int) % 2 = 0
  · obtain ⟨h1, e1, p1, g1⟩ := m_odd_l (S := S) hf hc (some (.int (sz ((nc : Int) - 1)))) 12 ((nc : Int) - 1) h (by omega) (by omega) hP
    refine ⟨h1, ?_, p1, g1⟩
    simp (disch := omega) only [c16_q, q16, sz_and1, Option.bind_some, sz_lt0, sz_lt, sz_0lt, sz_mul, sz_add, sz_sub, sz_eq0, sz_eq, sz_nat, List.length_map, nb0, nb1, bz_eq0, ↓reduceIte, Int.reduceEq, Int.reduceLT, Int.reduceAdd, Int.reduceSub, Int.reduceMul, Int.reduceNeg]
    rw [if_pos q]
    exact e1
  · obtain ⟨h1, e1, p1, g1⟩ := m_odd_l (S := S) hf hc (some (.int (sz ((nc : Int) - 2)))) 12 ((nc : Int) - 2) h (by omega) (by omega) hP
    refine ⟨h1, ?_, p1, g1⟩
    simp (disch := omega) only [c16_q, q16, sz_and1, Option.bind_some, sz_lt0, sz_lt, sz_0lt, sz_mul, sz_add, sz_sub, sz_eq0, sz_eq, sz_nat, List.length_map, nb0, nb1, bz_eq0, ↓reduceIte, Int.reduceEq, Int.reduceLT, Int.reduceAdd, Int.reduceSub, Int.reduceMul, Int.reduceNeg]
    rw [if_neg q]
    exact e1
theorem m_twice_l {r nc : Nat} (hr : r ≤ 12) (hc : nc ≤ 12) : ∀ (n x : Nat) (h : sx_H) (l4 : Option Value), x + n = nc → sx_PV h P X L →
    ∃ h', sx_Ev S 17 2 [some (.ref P), some (.int (sz r)), some (.int (sz nc)), some (.int (sz x)), l4] [] h = some (.inl none, h') ∧ sx_PV h' P X L ∧ sx_gr (fun a => a = P ∨ a = X) 0 0 h h' := by
  intro n
  induction n with
  | zero =>
    intro x h l4 hx hP
    refine ⟨h, ?_, hP, sx_gr.refl h⟩
    rw [h17_2]
    simp (disch := omega) only [q17, Option.bind_some, sz_lt0, sz_lt, sz_0lt, sz_mul, sz_add, sz_sub, sz_eq0, sz_eq, sz_nat, List.length_map, nb0, nb1, bz_eq0, ↓reduceIte, Int.reduceEq, Int.reduceLT, Int.reduceAdd, Int.reduceSub, Int.reduceMul, Int.reduceNeg]
    rw [if_neg (by omega)]
  | succ n ih =>
    intro x h l4 hx hP
    have fk := hP.k
    have hx1 : (x : Int) + 1 = ((x + 1 : Nat) : Int) := by omega
    have b1 := mul_bd (r := (r : Int)) (nc := nc) (by omega) hc
    by_cases q : (r : Int) % 2 = 0
    · obtain ⟨h1, e1, p1, g1⟩ := m_go (S := S) hP (v := (r : Int) * nc + x) (by omega)
      have fk1 := p1.k
      obtain ⟨h2, e2, p2, g2⟩ := m_go (S := S) p1 (v := (r : Int) * nc + x) (by omega)
      obtain ⟨h3, e3, p3, g3⟩ := ih (x + 1) h2 (some (.int (sz x))) (by omega) p2
      refine ⟨h3, ?_, p3, g1.trans (g2.trans g3)⟩
      rw [h17_2]
      simp (disch := omega) only [q17, fk, e1, fk1, e2, hx1, sz_and1, Option.bind_some, sz_lt0, sz_lt, sz_0lt, sz_mul, sz_add, sz_sub, sz_eq0, sz_eq, sz_nat, List.length_map, nb0, nb1, bz_eq0, ↓reduceIte, Int.reduceEq, Int.reduceLT, Int.reduceAdd, Int.reduceSub, Int.reduceMul, Int.reduceNeg]
      rw [if_pos (by omega), if_pos q]
      exact e3
    · obtain ⟨h1, e1, p1, g1⟩ := m_go (S := S) hP (v := (r : Int) * nc + ((nc : Int) - 1 - x)) (by omega)
      have fk1 := p1.k
      obtain ⟨h2, e2, p2, g2⟩ := m_go (S := S) p1 (v := (r : Int) * nc + ((nc : Int) - 1 - x)) (by omega)
      obtain ⟨h3, e3, p3, g3⟩ := ih (x + 1) h2 (some (.int (sz ((nc : Int) - 1 - x)))) (by omega) p2
      refine ⟨h3, ?_, p3, g1.trans (g2.trans g3)⟩
      rw [h17_2]
      simp (disch := omega) only [q17, fk, e1, fk1, e2, hx1, sz_and1, Option.bind_some, sz_lt0, sz_lt, sz_0lt, sz_mul, sz_add, sz_sub, sz_eq0, sz_eq, sz_nat, List.length_map, nb0, nb1, bz_eq0, ↓reduceIte, Int.reduceEq, Int.reduceLT, Int.reduceAdd, Int.reduceSub, Int.reduceMul, Int.reduceNeg]
      rw [if_pos (by omega), if_neg q]
      exact e3
theorem m_twice (hP : sx_PV h P X L) {r nc : Nat} (hr : r ≤ 12) (hc : nc ≤ 12) : ∃ h', sx_Cl S 17 [.ref P, .int (sz r), .int (sz nc)] h = some (.inl none, h') ∧ sx_PV h' P X L ∧ sx_gr (fun a => a = P ∨ a = X) 0 0 h h' := by
  obtain ⟨h1, e1, p1, g1⟩ := m_twice_l (S := S) hr hc nc 0 h none (by omega) hP
  refine ⟨h1, ?_, p1, g1⟩
  simp (disch := omega) only [c17_q, q17, Option.bind_some, sz_lt0, sz_lt, sz_0lt, sz_mul, sz_add, sz_sub, sz_eq0, sz_eq, sz_nat, List.length_map, nb0, nb1, bz_eq0, ↓reduceIte, Int.reduceEq, Int.reduceLT, Int.reduceAdd, Int.reduceSub, Int.reduceMul, Int.reduceNeg]
  exact e1
theorem m_path_l {st : Int} {nc nr : Nat} (hs : st = 108 ∨ st = 112 ∨ st = 98) (hc : nc ≤ 12) (hn : nr ≤ 12) (l4 : Option Value) : ∀ (n r : Nat) (h : sx_H), r + n = nr → sx_PV h P X L →
    ∃ h', sx_Ev S 18 31 [some (.ref P), some (.int (sz st)), some (.int (sz nc)), some (.int (sz nr)), l4, some (.int (sz r))] [] h = some (.inl none, h') ∧ sx_PV h' P X L ∧ sx_gr (fun a => a = P ∨ a = X) 0 0 h h' := by
  intro n
  induction n with
  | zero =>
    intro r h hx hP
    refine ⟨h, ?_, hP, sx_gr.refl h⟩
    rw [h18_31]
    simp (disch := omega) only [q18, Option.bind_some, sz_lt0, sz_lt, sz_0lt, sz_mul, sz_add, sz_sub, sz_eq0, sz_eq, sz_nat, List.length_map, nb0, nb1, bz_eq0, ↓reduceIte, Int.reduceEq, Int.reduceLT, Int.reduceAdd, Int.reduceSub, Int.reduceMul, Int.reduceNeg]
    rw [if_neg (by omega)]
  | succ n ih =>
    intro r h hx hP
    have fk := hP.k
    have hr1 : (r : Int) + 1 = ((r + 1 : Nat) : Int) := by omega
    have b1 := mul_bd (r := (r : Int)) (nc := nc) (by omega) hc
    rcases hs with q | q | q
    · subst q
      obtain ⟨h1, e1, p1, g1⟩ := m_gfb (S := S) hP (fi := (r : Int) * nc) (nc := nc) (by omega) hc
      obtain ⟨h3, e3, p3, g3⟩ := ih (r + 1) h1 (by omega) p1
      refine ⟨h3, ?_, p3, g1.trans g3⟩
      rw [h18_31]
      simp (disch := omega) only [q18, fk, e1, hr1, Option.bind_some, sz_lt0, sz_lt, sz_0lt, sz_mul, sz_add, sz_sub, sz_eq0, sz_eq, sz_nat, List.length_map, nb0, nb1, bz_eq0, ↓reduceIte, Int.reduceEq, Int.reduceLT, Int.reduceAdd, Int.reduceSub, Int.reduceMul, Int.reduceNeg]
      rw [if_pos (by omega)]
      exact e3
    · subst q
      obtain ⟨h1, e1, p1, g1⟩ := m_even (S := S) hP (r := r) (nc := nc) (by omega) hc
      have fk1 := p1.k
      obtain ⟨h2, e2, p2, g2⟩ := m_odd (S := S) p1 (fi := (r : Int) * nc) (nc := nc) (by omega) hc
      obtain ⟨h3, e3, p3, g3⟩ := ih (r + 1) h2 (by omega) p2
      refine ⟨h3, ?_, p3, g1.trans (g2.trans g3)⟩
      rw [h18_31]
      simp (disch := omega) only [q18, fk, e1, fk1, e2, hr1, Option.bind_some, sz_lt0, sz_lt, sz_0lt, sz_mul, sz_add, sz_sub, sz_eq0, sz_eq, sz_nat, List.length_map, nb0, nb1, bz_eq0, ↓reduceIte, Int.reduceEq, Int.reduceLT, Int.reduceAdd, Int.reduceSub, Int.reduceMul, Int.reduceNeg]
      rw [if_pos (by omega)]
      exact e3
    · subst q
      obtain ⟨h1, e1, p1, g1⟩ := m_twice (S := S) hP (r := r) (nc := nc) (by omega) hc
      obtain ⟨h3, e3, p3, g3⟩ := ih (r + 1) h1 (by omega) p1
      refine ⟨h3, ?_, p3, g1.trans g3⟩
      rw [h18_31]
      simp (disch := omega) only [q18, fk, e1, hr1, Option.bind_some, sz_lt0, sz_lt, sz_0lt, sz_mul, sz_add, sz_sub, sz_eq0, sz_eq, sz_nat, List.length_map, nb0, nb1, bz_eq0, ↓reduceIte, Int.reduceEq, Int.reduceLT, Int.reduceAdd, Int.reduceSub, Int.reduceMul, Int.reduceNeg]
      rw [if_pos (by omega)]
      exact e3
theorem m_path_i {st : Int} {nc nr : Nat} (hs : st = 108 ∨ st = 112 ∨ st = 98) (hc : 1 ≤ nc ∧ nc ≤ 12) (hn : 1 ≤ nr ∧ nr ≤ 12) (e : sx_get h P = some (.inr (.inr (3, sx_df 3)))) : ∃ h', sx_Cl S 18 [.ref P, .int (sz st), .int (sz nc), .int (sz nr)] h = some (.inl none, h') ∧
    sx_PV h' P (sx_new h) (2 * nc * nr) ∧ sx_gr (· = P) 1 (2 * nc * nr) h h' := by
  have hm := mulN_bd hc.2 hn.2
  have hm2 : 2 * nc * nr = 2 * (nc * nr) := Nat.mul_assoc 2 nc nr
  have hm3 : 1 ≤ nc * nr := Nat.mul_pos hc.1 hn.1
  obtain ⟨h1, e1, x1, y1, g1⟩ := sx_al (f := 0) (n := 2 * nc * nr) (c := .inl (List.replicate (2 * nc * nr) 0)) e (by decide)
  have hl := (sx_get_lt e).2
  have hz : (2 : Int) * nc * nr = ((2 * nc * nr : Nat) : Int) := by simp
  have hp1 : sx_PV h1 P (sx_new h) (2 * nc * nr) := ⟨by omega, 0, List.replicate (2 * nc * nr) 0, by omega, List.length_replicate, fun y hy => by rw [List.eq_of_mem_replicate hy]; omega, x1, y1.trans (by rw [sx_repl])⟩
  obtain ⟨h2, e2, p2, g2⟩ := m_path_l (S := S) hs hc.2 hn.2 (some (.int (sz ((2 * nc * nr : Nat) : Int)))) nr 0 h1 (by omega) hp1
  refine ⟨h2, ?_, p2, sx_gr.of_new ((g1.mono fun b q => Or.inl q).trans (g2.mono fun b q => q.elim Or.inl fun q => Or.inr (by omega)))⟩
  have w := sx_nwz (n := 2 * nc * nr) (by omega)
  have wi := sx_nwi (2 * nc * nr)
  have t : (sz ((2 * nc * nr : Nat) : Int)).toNatClampNeg = 2 * nc * nr := by rw [sz_clamp (by omega)]; omega
  simp (disch := omega) only [c18_q, q18, hz, t, w, wi, or_false, e1, Option.bind_some, sz_lt0, sz_lt, sz_0lt, sz_mul, sz_add, sz_sub, sz_eq0, sz_eq, sz_nat, List.length_map, nb0, nb1, bz_eq0, ↓reduceIte, Int.reduceEq, Int.reduceLT, Int.reduceAdd, Int.reduceSub, Int.reduceMul, Int.reduceNeg]
  rw [if_pos (by omega)]
  exact e2
theorem m_len (hP : sx_PV h P X L) : ∃ n : Nat, n ≤ L ∧ sx_Cl S 19 [.ref P] h = some (.inl (some (.int (sz n))), h) ∧ ∀ i : Nat, ∃ y : Int, (-20000 ≤ y ∧ y ≤ 20000) ∧ (i < 1000 → sx_Cl S 20 [.ref P, .int (sz i)] h = some (.inl (some (.int (sz y))), h)) := by
  obtain ⟨hL, n, ys, hn, hl, hy, e1, e2⟩ := id hP
  have f0 := sx_fld_of (f := 0) e1 rfl
  have f1 := sx_fld_of (f := 1) e1 rfl
  have i0 := sx_ints_of (S := S) e2
  refine ⟨n, hn, ?_, fun i => ?_⟩
  · simp (disch := omega) only [c19_q, q19, f1, Option.bind_some, sz_lt0, sz_lt, sz_0lt, sz_mul, sz_add, sz_sub, sz_eq0, sz_eq, sz_nat, List.length_map, nb0, nb1, bz_eq0, ↓reduceIte, Int.reduceEq, Int.reduceLT, Int.reduceAdd, Int.reduceSub, Int.reduceMul, Int.reduceNeg]
  · by_cases hi : i < n
    · have hlt : i < ys.length := by omega
      have w := sx_rd_of (S := S) (x := (i : Int)) e2 (by omega) (by omega)
      refine ⟨ys.getD (i : Int).toNat 0, ?_, fun h3 => ?_⟩
      · rw [show (i : Int).toNat = i by omega, List.getD_eq_getElem?_getD, List.getElem?_eq_getElem hlt]
        exact hy _ (List.getElem_mem hlt)
      · simp (disch := omega) only [c20_q, q20, f0, f1, i0, hl, Option.bind_some, sz_lt0, sz_lt, sz_0lt, sz_mul, sz_add, sz_sub, sz_eq0, sz_eq, sz_nat, List.length_map, nb0, nb1, bz_eq0, ↓reduceIte, Int.reduceEq, Int.reduceLT, Int.reduceAdd, Int.reduceSub, Int.reduceMul, Int.reduceNeg]
        rw [if_neg (by omega), if_pos (by omega), if_pos (by omega), w]
        simp only [Option.bind_some, q20]
    · refine ⟨-1, by omega, fun h3 => ?_⟩
      simp (disch := omega) only [c20_q, q20, f0, f1, i0, hl, Option.bind_some, sz_lt0, sz_lt, sz_0lt, sz_mul, sz_add, sz_sub, sz_eq0, sz_eq, sz_nat, List.length_map, nb0, nb1, bz_eq0, ↓reduceIte, Int.reduceEq, Int.reduceLT, Int.reduceAdd, Int.reduceSub, Int.reduceMul, Int.reduceNeg]
      rw [if_neg (by omega), if_neg (by omega)]
end SXQ
