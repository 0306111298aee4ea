/-! THE CALLS, third part: new kinds and cloths, the sound state, the script's numbers -/
theorem sz_and_small {v : Int32} : ∃ z : Int, 0 ≤ z ∧ z < 2147483648 ∧ v &&& sz 2147483647 = sz z := by
  refine ⟨(v &&& sz 2147483647).toInt, ?_, ?_, (Int32.ofInt_toInt _).symm⟩
  · have e : (v &&& sz 2147483647).toBitVec.msb = false := by
      rw [Int32.toBitVec_and, BitVec.msb_and, show (sz 2147483647).toBitVec.msb = false by decide, Bool.and_false]
    rw [BitVec.msb_eq_toInt] at e
    have := of_decide_eq_false e
    show 0 ≤ (v &&& sz 2147483647).toBitVec.toInt
    omega
  · have := Int32.toInt_lt (v &&& sz 2147483647)
    omega
theorem sz_tdiv2 {a b : Int} (ha : 0 ≤ a ∧ a < 2147483648) (hb : 1 ≤ b ∧ b ≤ 1000000000) : sz a / sz b = sz (a.tdiv b) := by
  have e1 : Int32.minValue.toInt = -2147483648 := by decide
  have e2 : Int32.maxValue.toInt = 2147483647 := by decide
  exact (Int32.ofInt_tdiv (by omega) (by omega) (by omega) (by omega)).symm
/-- an array's cell is written -/
theorem sx_wi {h : sx_H} {a : Nat} {xs : List Int} {x v : Int} (e : sx_get h a = some (.inl (xs.map sz))) (hx : 0 ≤ x ∧ x < xs.length) (hl : xs.length ≤ 1000000000) : ∃ h1, sx_wr h a (sz x) (sz v) = some h1 ∧ sx_get h1 a = some (.inl ((xs.set x.toNat v).map sz)) ∧ sx_gr (· = a) 0 0 h h1 :=
  ⟨_, sx_wr_of e hx hl, sx_get_set e, sx_gr.set (A := (· = a)) e rfl⟩
theorem sx_wrA_of {h : sx_H} {a w : Nat} {rs : List (Option Nat)} {x : Int} (e : sx_get h a = some (.inr (.inl (0, rs)))) (hw : sx_klass h w = some 0) (hx : 0 ≤ x ∧ x < rs.length) (hl : rs.length ≤ 1000) : sx_wrA h a (sz x) w = some (sx_set h a (.inr (.inl (0, rs.set x.toNat (some w))))) := by
  unfold sx_wrA
  rw [e]
  dsimp only
  rw [if_pos ⟨rfl, hw⟩, sz_clamp (by omega), if_neg (by rw [sz_lt0 (by omega)]; omega)]
theorem sx_CL_add {L : List (Nat × Clo)} (hL : L.length < 6) (x : Nat × Clo) : (sx_CL L).set L.length (some x.1) = sx_CL (L ++ [x]) ∧ (sx_CL L).length = 6 := by
  constructor
  · unfold sx_CL
    rw [List.set_append_right _ _ (by rw [List.length_map]; exact Nat.le_refl _), List.length_map, Nat.sub_self, List.map_append, List.append_assoc]
    congr 1
    obtain ⟨k, hk⟩ : ∃ k, 6 - L.length = k + 1 := ⟨5 - L.length, by omega⟩
    rw [hk, List.replicate_succ, List.set_cons_zero, List.length_append, show 6 - (L.length + [x].length) = k by simp; omega]
    rfl
  · unfold sx_CL
    rw [List.length_append, List.length_map, List.length_replicate]
    omega
section SXC3
variable {S : List Int32} {h : sx_H} {n : Nat} {tl : Int} {ws : List Int} {L : List (Nat × Clo)} {c : Nat} {C : Clo} {i : Int}
theorem m_cell {i : Int} (hi : 0 ≤ i ∧ i ≤ 100000) (hS : S.length ≤ 100000) : ∃ v : Int32, ∀ h, sx_Cl S 97 [.ref 0, .int (sz i)] h = some (.inl (some (.int v)), h) := by
  have i0 : ∀ h, sx_ints S h 0 = some S := fun _ => rfl
  by_cases hlt : i < S.length
  · have hr : ∀ h, sx_rd S h 0 (sz i) = some (S.getD i.toNat 0) := fun h => by
      unfold sx_rd
      rw [i0]
      dsimp only
      rw [sz_clamp (by omega), if_neg (by rw [sz_lt0 (by omega)]; omega)]
    refine ⟨?_, fun h => ?_⟩
    rotate_left
    · simp (disch := omega) only [c97_q, q97, i0, hr, if_pos hlt, Option.bind_some, sz_lt0, sz_lt, sz_0lt, sz_mul, sz_add, sz_sub, sz_eq0, sz_eq, sz_nat, List.length_map, nb0, nb1, bz_eq0, ↓reduceIte, Int.reduceEq, Int.reduceLT, Int.reduceAdd, Int.reduceSub, Int.reduceMul, Int.reduceNeg]
      rfl
  · refine ⟨?_, fun h => ?_⟩
    rotate_left
    · simp (disch := omega) only [c97_q, q97, i0, if_neg hlt, Option.bind_some, sz_lt0, sz_lt, sz_0lt, sz_mul, sz_add, sz_sub, sz_eq0, sz_eq, sz_nat, List.length_map, nb0, nb1, bz_eq0, ↓reduceIte, Int.reduceEq, Int.reduceLT, Int.reduceAdd, Int.reduceSub, Int.reduceMul, Int.reduceNeg]
      rfl
theorem m_in {i n : Int} (hi : 0 ≤ i ∧ i ≤ 100000) (hn : 1 ≤ n ∧ n ≤ 100000) (hS : S.length ≤ 100000) : ∃ v : Int, (0 ≤ v ∧ v < n) ∧ ∀ h, sx_Cl S 117 [.ref 0, .int (sz i), .int (sz n)] h = some (.inl (some (.int (sz v))), h) := by
  obtain ⟨v, hv⟩ := m_cell (S := S) hi hS
  obtain ⟨z, z1, z2, z3⟩ := sz_and_small (v := v)
  have hb := rem_bd (a := z) (b := n) (by omega)
  have h0 : 0 ≤ z - z.tdiv n * n := by
    have := Int.tmod_nonneg n z1
    rw [Int.tmod_def, Int.mul_comm] at this
    exact this
  have hd := sz_tdiv2 (a := z) (b := n) ⟨z1, z2⟩ (by omega)
  refine ⟨z - z.tdiv n * n, ⟨h0, hb.2⟩, fun h => ?_⟩
  simp (disch := omega) only [c117_q, q117, hv, z3, hd, Option.bind_some, sz_lt0, sz_lt, sz_0lt, sz_mul, sz_add, sz_sub, sz_eq0, sz_eq, sz_nat, List.length_map, nb0, nb1, bz_eq0, ↓reduceIte, Int.reduceEq, Int.reduceLT, Int.reduceAdd, Int.reduceSub, Int.reduceMul, Int.reduceNeg]
  rw [if_neg (by omega)]
theorem sx_cs_step (hn : n ≤ 3) : (sx_cs n).set n ((n % 3 : Nat) : Int) = sx_cs (n + 1) ∧ (sx_cs n).length = 8 := by
  rcases (show n = 0 ∨ n = 1 ∨ n = 2 ∨ n = 3 by omega) with q | q | q | q <;> subst q <;> decide
theorem w_addKind (hB : sx_BV h n tl ws L) (hn : n ≤ 3) {u v w z : Int} (hu : u = ((n % 3 : Nat) : Int)) (hv : 8 ≤ v ∧ v ≤ 30) (hw : 2 ≤ w ∧ w ≤ 9) (hz : 0 ≤ z ∧ z ≤ 99) :
    ∃ h', sx_Cl S 98 [.ref 2, .int (sz u), .int (sz v), .int (sz w), .int (sz z)] h = some (.inl (some (.int (sz n))), h') ∧ sx_BV h' (n + 1) tl (ws.set n v) L ∧ sx_gr (fun a => 3 ≤ a ∧ a ≤ 7) 0 0 h h' := by
  obtain ⟨f0, f1, f3, f4, f5, f6, f8, f10, f11, k2, k3, k11, k13, k15, hl⟩ := hB.g
  have o1 := o_range (S := S) (h := h) (v := u) (a := 0) (b := 7) (by omega) (by omega) (by omega)
  have o2 := o_range (S := S) (h := h) (v := v) (a := 8) (b := 30) (by omega) (by omega) (by omega)
  have o3 := o_range (S := S) (h := h) (v := w) (a := 2) (b := 9) (by omega) (by omega) (by omega)
  have o4 := o_range (S := S) (h := h) (v := z) (a := 0) (b := 99) (by omega) (by omega) (by omega)
  have n0 := nb0
  have n1 := nb1
  have hn1 : (n : Int) + 1 = ((n + 1 : Nat) : Int) := by omega
  have hn2 : ((n + 1 : Nat) : Int) - 1 = n := by omega
  have hn3 : (n : Int).toNat = n := by omega
  obtain ⟨b1, b2, ⟨t1, t2, t3, t4, ⟨hs, t5, t6⟩, ⟨ps, t7, t8⟩, t9⟩, b4, ⟨b5, b6⟩, ⟨m, es, b7⟩, b8, b9, ba, bb⟩ := id hB
  obtain ⟨c1, c2⟩ := sx_cs_step hn
  obtain ⟨h1, p1, q1, g1⟩   := sx_wi (x := (n : Int)) (v := u) t2 (by omega) (by omega)
  have t1a := g1.1.2.2 _ _ (by decide) t1
  have t3a := g1.1.2.2 _ _ (by decide) t3
  obtain ⟨h2, p2, q2, g2⟩   := sx_wi (x := (n : Int)) (v := v) t3a (by omega) (by omega)
  have t1b := g2.1.2.2 _ _ (by decide) t1a
  have t6b := g2.1.2.2 _ _ (by decide) (g1.1.2.2 _ _ (by decide) t6)
  obtain ⟨h3, p3, q3, g3⟩   := sx_wi (x := (n : Int)) (v := w) t6b (by omega) (by omega)
  have t1c := g3.1.2.2 _ _ (by decide) t1b
  have t8c := g3.1.2.2 _ _ (by decide) (g2.1.2.2 _ _ (by decide) (g1.1.2.2 _ _ (by decide) t8))
  obtain ⟨h4, p4, q4, g4⟩   := sx_wi (x := (n : Int)) (v := z) t8c (by omega) (by omega)
  have t1d := g4.1.2.2 _ _ (by decide) t1c
  obtain ⟨h5, p5, q5, g5⟩ := sx_pf (f := 5) (v := .int (sz ((n + 1 : Nat) : Int))) t1d (by exact (by decide : (5:Nat) < 6))
  have y0 := sx_fld_of (f := 0) t1 rfl
  have y5 := sx_fld_of (f := 5) t1 rfl
  have y1 := sx_fld_of (f := 1) t1a rfl
  have y5a := sx_fld_of (f := 5) t1a rfl
  have y2 := sx_fld_of (f := 2) t1b rfl
  have y5b := sx_fld_of (f := 5) t1b rfl
  have y3 := sx_fld_of (f := 3) t1c rfl
  have y5c := sx_fld_of (f := 5) t1c rfl
  have y5d := sx_fld_of (f := 5) t1d rfl
  have y5e := sx_fld_of (f := 5) q5 rfl
  have gall : sx_gr (fun a => 3 ≤ a ∧ a ≤ 7) 0 0 h h5 := (g1.mono fun a (q : a = 4) => by omega).trans ((g2.mono fun a (q : a = 5) => by omega).trans ((g3.mono fun a (q : a = 6) => by omega).trans ((g4.mono fun a (q : a = 7) => by omega).trans (g5.mono fun a (q : a = 3) => by omega))))
  refine ⟨h5, ?_, ?_, gall⟩
  · have ef : sx_Cl S 54 [.ref 3] h = some (.inl (some (.int (sz 0))), h) := by
      simp (disch := omega) only [c54_q, q54, y5, Option.bind_some, sz_lt0, sz_lt, sz_0lt, sz_mul, sz_add, sz_sub, sz_eq0, sz_eq, sz_nat, List.length_map, nb0, nb1, bz_eq0, ↓reduceIte, Int.reduceEq, Int.reduceLT, Int.reduceAdd, Int.reduceSub, Int.reduceMul, Int.reduceNeg]
      rw [if_pos (by omega)]
    have ep : sx_Cl S 55 [.ref 3, .int (sz u), .int (sz v), .int (sz w), .int (sz z)] h = some (.inl (some (.int (sz n))), h5) := by
      simp (disch := omega) only [c55_q, q55, ef, y0, y5, p1, y1, y5a, p2, y2, y5b, p3, y3, y5c, p4, y5d, hn1, p5, y5e, hn2, Option.bind_some, sz_lt0, sz_lt, sz_0lt, sz_mul, sz_add, sz_sub, sz_eq0, sz_eq, sz_nat, List.length_map, nb0, nb1, bz_eq0, ↓reduceIte, Int.reduceEq, Int.reduceLT, Int.reduceAdd, Int.reduceSub, Int.reduceMul, Int.reduceNeg]
    have e : sx_Cl S 67 [.ref 2, .int (sz u), .int (sz v), .int (sz w), .int (sz z)] h = some (.inl (some (.int (sz n))), h5) := by
      simp (disch := omega) only [c67_q, q67, o1, o2, o3, o4, f0, ef, ep, Option.bind_some, sz_lt0, sz_lt, sz_0lt, sz_mul, sz_add, sz_sub, sz_eq0, sz_eq, sz_nat, List.length_map, nb0, nb1, bz_eq0, ↓reduceIte, Int.reduceEq, Int.reduceLT, Int.reduceAdd, Int.reduceSub, Int.reduceMul, Int.reduceNeg]
    simp (disch := omega) only [c98_q, q98, e, Option.bind_some, sz_lt0, sz_lt, sz_0lt, sz_mul, sz_add, sz_sub, sz_eq0, sz_eq, sz_nat, List.length_map, nb0, nb1, bz_eq0, ↓reduceIte, Int.reduceEq, Int.reduceLT, Int.reduceAdd, Int.reduceSub, Int.reduceMul, Int.reduceNeg]
  · have kp := gall.1
    have hnw := gall.nw
    refine ⟨kp.2.2 _ _ (by omega) b1, kp.2.2 _ _ (by omega) b2, ⟨q5, ?_, ?_, by rw [List.length_set]; exact t4, ⟨hs.set n w, by rw [List.length_set]; exact t5, ?_⟩, ⟨ps.set n z, by rw [List.length_set]; exact t7, ?_⟩, kp.2.2 _ _ (by omega) t9⟩, kp.2.2 _ _ (by omega) b4, ⟨kp.2.2 _ _ (by omega) b5, kp.2.2 _ _ (by omega) b6⟩, ⟨m, es, b7.kp kp (by omega) (by omega)⟩, b8, fun j d D hj => ⟨(b9 j d D hj).1, by have := (b9 j d D hj).2.1; omega, by have := (b9 j d D hj).1; exact (b9 j d D hj).2.2.kp kp (by omega) (by omega) (by omega)⟩, ba, by omega⟩
    · rw [← c1, ← hu, ← hn3]
      exact g5.1.2.2 _ _ (by decide) (g4.1.2.2 _ _ (by decide) (g3.1.2.2 _ _ (by decide) (g2.1.2.2 _ _ (by decide) q1)))
    · rw [hn3] at q2
      exact g5.1.2.2 _ _ (by decide) (g4.1.2.2 _ _ (by decide) (g3.1.2.2 _ _ (by decide) q2))
    · rw [hn3] at q3
      exact g5.1.2.2 _ _ (by decide) (g4.1.2.2 _ _ (by decide) q3)
    · rw [hn3] at q4
      exact g5.1.2.2 _ _ (by decide) q4
theorem w_addKind_no {v w z : Int} (hB : sx_BV h n tl ws L) {u : Int} (hu : 7 < u ∧ u ≤ 1000) :
    sx_Cl S 98 [.ref 2, .int (sz u), .int (sz v), .int (sz w), .int (sz z)] h = some (.inl (some (.int (sz (-900001)))), sx_push h none 6) := by
  obtain ⟨f0, f1, f3, f4, f5, f6, f8, f10, f11, k2, k3, k11, k13, k15, hl⟩ := hB.g
  have o1 := o_range_no (S := S) (h := h) (v := u) (a := 0) (b := 7) (by omega) (by omega)
  have e : sx_Cl S 67 [.ref 2, .int (sz u), .int (sz v), .int (sz w), .int (sz z)] h = some (.inr 0, sx_push h none 6) := by
    simp (disch := omega) only [c67_q, q67, o1, Option.bind_some, sz_lt0, sz_lt, sz_0lt, sz_mul, sz_add, sz_sub, sz_eq0, sz_eq, sz_nat, List.length_map, nb0, nb1, bz_eq0, ↓reduceIte, Int.reduceEq, Int.reduceLT, Int.reduceAdd, Int.reduceSub, Int.reduceMul, Int.reduceNeg]
  simp (disch := omega) only [c98_q, q98, e, Option.bind_some, sz_lt0, sz_lt, sz_0lt, sz_mul, sz_add, sz_sub, sz_eq0, sz_eq, sz_nat, List.length_map, nb0, nb1, bz_eq0, ↓reduceIte, Int.reduceEq, Int.reduceLT, Int.reduceAdd, Int.reduceSub, Int.reduceMul, Int.reduceNeg]
theorem o_stitch {st : Int} (hst : st = 108 ∨ st = 112 ∨ st = 98) : sx_Cl S 61 [.int (sz st)] h = some (.inl (some (.int (sz 1))), h) := by
  have n0 := nb0
  have n1 := nb1
  rcases hst with q | q | q <;> subst q <;> simp (disch := omega) only [c61_q, q61, Option.bind_some, sz_lt0, sz_lt, sz_0lt, sz_mul, sz_add, sz_sub, sz_eq0, sz_eq, sz_nat, List.length_map, nb0, nb1, bz_eq0, ↓reduceIte, Int.reduceEq, Int.reduceLT, Int.reduceAdd, Int.reduceSub, Int.reduceMul, Int.reduceNeg]
theorem w_addCloth_x (hB : sx_BV h n tl ws L) {u v : Int} : sx_Cl S 100 [.ref 2, .int (sz 120), .int (sz u), .int (sz v)] h = some (.inl (some (.int (sz (-900001)))), sx_push h none 6) := by
  obtain ⟨f0, f1, f3, f4, f5, f6, f8, f10, f11, k2, k3, k11, k13, k15, hl⟩ := hB.g
  have n0 := nb0
  have n1 := nb1
  have o1 : sx_Cl S 61 [.int (sz 120)] h = some (.inl (some (.int (sz 0))), h) := by
    simp (disch := omega) only [c61_q, q61, Option.bind_some, sz_lt0, sz_lt, sz_0lt, sz_mul, sz_add, sz_sub, sz_eq0, sz_eq, sz_nat, List.length_map, nb0, nb1, bz_eq0, ↓reduceIte, Int.reduceEq, Int.reduceLT, Int.reduceAdd, Int.reduceSub, Int.reduceMul, Int.reduceNeg]
  have e : sx_Cl S 69 [.ref 2, .int (sz 120), .int (sz u), .int (sz v)] h = some (.inr 0, sx_push h none 6) := by
    simp (disch := omega) only [c69_q, q69, o1, Option.bind_some, sz_lt0, sz_lt, sz_0lt, sz_mul, sz_add, sz_sub, sz_eq0, sz_eq, sz_nat, List.length_map, nb0, nb1, bz_eq0, ↓reduceIte, Int.reduceEq, Int.reduceLT, Int.reduceAdd, Int.reduceSub, Int.reduceMul, Int.reduceNeg]
  simp (disch := omega) only [c100_q, q100, e, Option.bind_some, sz_lt0, sz_lt, sz_0lt, sz_mul, sz_add, sz_sub, sz_eq0, sz_eq, sz_nat, List.length_map, nb0, nb1, bz_eq0, ↓reduceIte, Int.reduceEq, Int.reduceLT, Int.reduceAdd, Int.reduceSub, Int.reduceMul, Int.reduceNeg]
theorem w_addCloth_1 (hB : sx_BV h n tl ws L) {v : Int} : sx_Cl S 100 [.ref 2, .int (sz 108), .int (sz 1), .int (sz v)] h = some (.inl (some (.int (sz (-900001)))), sx_push h none 6) := by
  obtain ⟨f0, f1, f3, f4, f5, f6, f8, f10, f11, k2, k3, k11, k13, k15, hl⟩ := hB.g
  have o1 := o_stitch (S := S) (h := h) (st := 108) (by omega)
  have o2 := o_range_no (S := S) (h := h) (v := 1) (a := 2) (b := 12) (by omega) (by omega)
  have e : sx_Cl S 69 [.ref 2, .int (sz 108), .int (sz 1), .int (sz v)] h = some (.inr 0, sx_push h none 6) := by
    simp (disch := omega) only [c69_q, q69, o1, o2, Option.bind_some, sz_lt0, sz_lt, sz_0lt, sz_mul, sz_add, sz_sub, sz_eq0, sz_eq, sz_nat, List.length_map, nb0, nb1, bz_eq0, ↓reduceIte, Int.reduceEq, Int.reduceLT, Int.reduceAdd, Int.reduceSub, Int.reduceMul, Int.reduceNeg]
  simp (disch := omega) only [c100_q, q100, e, Option.bind_some, sz_lt0, sz_lt, sz_0lt, sz_mul, sz_add, sz_sub, sz_eq0, sz_eq, sz_nat, List.length_map, nb0, nb1, bz_eq0, ↓reduceIte, Int.reduceEq, Int.reduceLT, Int.reduceAdd, Int.reduceSub, Int.reduceMul, Int.reduceNeg]
/-- the cloth as it is made -/
def Clo.neu (st : Int) (nc nr : Nat) : Clo := (st, nc, nr, List.replicate (nr * nc) (-1), 0)
theorem w_addCloth (hB : sx_BV h n tl ws L) (hL : L.length < 6) {st : Int} {nc nr : Nat} (hst : st = 108 ∨ st = 112 ∨ st = 98) (hnc : 2 ≤ nc ∧ nc ≤ 12) (hnr : 1 ≤ nr ∧ nr ≤ 12) :
    ∃ h', sx_Cl S 100 [.ref 2, .int (sz st), .int (sz nc), .int (sz nr)] h = some (.inl (some (.int (sz L.length))), h') ∧ sx_BV h' n tl ws (L ++ [(sx_new h, Clo.neu st nc nr)]) ∧ sx_gr (fun a => a = 2 ∨ a = 9) 7 (13 + 2 * nc * nr + 4 * (nc * nr)) h h' := by
  obtain ⟨f0, f1, f3, f4, f5, f6, f8, f10, f11, k2, k3, k11, k13, k15, hl⟩ := hB.g
  have o1 := o_stitch (S := S) (h := h) hst
  have o2 := o_range (S := S) (h := h) (v := (nc : Int)) (a := 2) (b := 12) (by omega) (by omega) (by omega)
  have o3 := o_range (S := S) (h := h) (v := (nr : Int)) (a := 1) (b := 12) (by omega) (by omega) (by omega)
  obtain ⟨b1, b2, b3, b4, ⟨b5, b6⟩, ⟨m, es, b7⟩, b8, b9, ba, bb⟩ := id hB
  have gP : sx_gr (fun a => a = 2 ∨ a = 9) 1 11 h (sx_push h (some (.inr (.inr (0, sx_df 0)))) 11) := sx_gr.push h _ 11
  have xP : sx_get (sx_push h (some (.inr (.inr (0, sx_df 0)))) 11) (sx_new h) = some (.inr (.inr (0, sx_df 0))) := sx_get_new
  have eN : sx_N 0 = 11 := rfl
  have nP := gP.nw
  generalize hc : sx_new h = c at *
  generalize hh1 : sx_push h (some (.inr (.inr (0, sx_df 0)))) 11 = h1 at *
  have hc17 : 17 ≤ c := bb
  have gF : sx_gr (fun a => c ≤ a) 1 11 h h1 := by rw [← hh1]; exact sx_gr.push h _ 11
  have f0a := sx_fld_of (f := 0) (gF.1.2.2 _ _ (by omega) b1) rfl
  obtain ⟨h2, p2, q2, g2⟩ := m_cloth_i (S := S) (K := 3) (nc := nc) (nr := nr) hst hnc hnr nP (by omega) xP
  have gF2 : sx_gr (fun a => c ≤ a) _ _ h h2 := gF.trans (g2.mono fun a (q : a = c) => by omega)
  have hold : ∀ (a : Nat) (x : sx_C), sx_get h a = some x → sx_get h2 a = some x := fun a x ha => gF2.1.2.2 _ _ (by have := (sx_get_lt ha).2; omega) ha
  have kc : sx_klass h2 c = some 0 := (q2.f (S := S)).2.2.2.2.2.2.2.2.1
  obtain ⟨c1, c2⟩ := sx_CL_add hL (c, Clo.neu st nc nr)
  have w := sx_wrA_of (x := (L.length : Int)) (hold _ _ b2) kc (by rw [c2]; omega) (by omega)
  rw [show (L.length : Int).toNat = L.length by omega, c1] at w
  have r9 : sx_get (sx_set h2 9 (.inr (.inl (0, sx_CL (L ++ [(c, Clo.neu st nc nr)]))))) 9 = some (.inr (.inl (0, sx_CL (L ++ [(c, Clo.neu st nc nr)])))) := sx_get_set (hold _ _ b2)
  have g3 : sx_gr (fun a => a = 2 ∨ a = 9) 0 0 h2 (sx_set h2 9 (.inr (.inl (0, sx_CL (L ++ [(c, Clo.neu st nc nr)]))))) := sx_gr.set (hold _ _ b2) (Or.inr rfl)
  have g3' : sx_gr (fun a => a = 9) 0 0 h2 (sx_set h2 9 (.inr (.inl (0, sx_CL (L ++ [(c, Clo.neu st nc nr)]))))) := sx_gr.set (hold _ _ b2) rfl
  generalize hh3 : sx_set h2 9 (.inr (.inl (0, sx_CL (L ++ [(c, Clo.neu st nc nr)])))) = h3 at *
  have r2 := g3'.1.2.2 _ _ (by decide) (hold _ _ b1)
  obtain ⟨h4, p4, q4, g4⟩ := sx_pf (f := 6) (v := .int (sz ((L.length + 1 : Nat) : Int))) r2 (by exact (by decide : (6:Nat) < 12))
  have y6 := sx_fld_of (f := 6) r2 rfl
  have y6e := sx_fld_of (f := 6) q4 rfl
  have hl1 : (L.length : Int) + 1 = ((L.length + 1 : Nat) : Int) := by omega
  have hl2 : ((L.length + 1 : Nat) : Int) - 1 = L.length := by omega
  have g34 : sx_gr (fun a => a = 2 ∨ a = 9) _ _ h2 h4 := g3.trans (g4.mono fun a (q : a = 2) => Or.inl q)
  have gall : sx_gr (fun a => (a = 2 ∨ a = 9) ∨ c ≤ a) _ _ h h4 := (gF2.mono fun a q => Or.inr q).trans (g34.mono fun a q => Or.inl q)
  rw [← hc] at gall
  have gall2 := sx_gr.of_new gall
  rw [hc] at gall
  refine ⟨h4, ?_, ?_, gall2.cast (by omega) (by omega)⟩
  · have e : sx_Cl S 69 [.ref 2, .int (sz st), .int (sz nc), .int (sz nr)] h = some (.inl (some (.int (sz L.length))), h4) := by
      simp (disch := omega) only [c69_q, q69, o1, o2, o3, f6, f1, f0, f0a, hc, eN, hh1, p2, w, y6, hl1, p4, y6e, hl2, Option.bind_some, sz_lt0, sz_lt, sz_0lt, sz_mul, sz_add, sz_sub, sz_eq0, sz_eq, sz_nat, List.length_map, nb0, nb1, bz_eq0, ↓reduceIte, Int.reduceEq, Int.reduceLT, Int.reduceAdd, Int.reduceSub, Int.reduceMul, Int.reduceNeg]
      rw [if_pos (by omega)]
    simp (disch := omega) only [c100_q, q100, e, Option.bind_some, sz_lt0, sz_lt, sz_0lt, sz_mul, sz_add, sz_sub, sz_eq0, sz_eq, sz_nat, List.length_map, nb0, nb1, bz_eq0, ↓reduceIte, Int.reduceEq, Int.reduceLT, Int.reduceAdd, Int.reduceSub, Int.reduceMul, Int.reduceNeg]
  · have kp := gall2.1
    have hnw := gall2.nw
    have hlen : (L ++ [(c, Clo.neu st nc nr)]).length = L.length + 1 := by simp
    have hget : ∀ (j d : Nat) (D : Clo), (L ++ [(c, Clo.neu st nc nr)])[j]? = some (d, D) → (j < L.length ∧ L[j]? = some (d, D)) ∨ (j = L.length ∧ d = c ∧ D = Clo.neu st nc nr) := by
      intro j d D hj
      rw [List.getElem?_append] at hj
      by_cases q : j < L.length
      · rw [if_pos q] at hj
        exact Or.inl ⟨q, hj⟩
      · rw [if_neg q] at hj
        obtain ⟨k, hk⟩ : ∃ k, j - L.length = k := ⟨_, rfl⟩
        rw [hk] at hj
        cases k with
        | zero => cases hj; exact Or.inr ⟨by omega, rfl, rfl⟩
        | succ k => simp at hj
    refine ⟨by rw [hlen]; exact q4, g4.1.2.2 _ _ (by decide) r9, b3.kp kp (fun a _ _ => by omega), kp.2.2 _ _ (by decide) b4, ⟨kp.2.2 _ _ (by decide) b5, kp.2.2 _ _ (by decide) b6⟩, ⟨m, es, b7.kp kp (by decide) (by decide)⟩, by rw [hlen]; omega, ?_, ?_, by omega⟩
    · intro j d D hj
      rcases hget j d D hj with ⟨r1, r2⟩ | ⟨r1, r2, r3⟩
      · have hd := b9 j d D r2
        exact ⟨hd.1, by omega, hd.2.2.kp kp (by omega) (by omega) (by omega)⟩
      · subst r2
        subst r3
        exact ⟨hc17, by omega, q2.kp g34.1 (by omega) (by omega) (by omega)⟩
    · intro j k d D f G hjk hj hk
      rcases hget j d D hj with ⟨r1, r2⟩ | ⟨r1, r2, r3⟩ <;> rcases hget k f G hk with ⟨s1, s2⟩ | ⟨s1, s2, s3⟩
      · exact ba _ _ _ _ _ _ hjk r2 s2
      · subst s2
        exact (b9 j d D r2).2.1
      · omega
      · omega
theorem m_stockOf (hB : sx_BV h 4 tl ws L) {k : Int} (hk : -1000 ≤ k ∧ k ≤ 1000) : sx_Cl S 56 [.ref 3, .int (sz k)] h = some (.inl (some (.int (sz 0))), h) := by
  obtain ⟨f0, f1, f3, f4, f5, f6, f8, f10, f11, k2, k3, k11, k13, k15, hl⟩ := hB.g
  have hh := m_has (S := S) hB.2.2.1.kv hk
  obtain ⟨t1, t2, t3, t4, -, -, t9⟩ := hB.2.2.1
  have y4 := sx_fld_of (f := 4) t1 rfl
  simp (disch := omega) only [c56_q, q56, hh, y4, Option.bind_some, sz_lt0, sz_lt, sz_0lt, sz_mul, sz_add, sz_sub, sz_eq0, sz_eq, sz_nat, List.length_map, nb0, nb1, bz_eq0, ↓reduceIte, Int.reduceEq, Int.reduceLT, Int.reduceAdd, Int.reduceSub, Int.reduceMul, Int.reduceNeg]
  by_cases hin : 0 ≤ k ∧ k < 4
  · have hrd := sx_rd_of (S := S) t9 (x := k) ⟨hin.1, by show k < 8; omega⟩ (by decide)
    rw [decide_eq_true hin, if_neg (by simp), hrd]
    have : (List.replicate 8 (0 : Int)).getD k.toNat 0 = 0 := by
      rcases (show k = 0 ∨ k = 1 ∨ k = 2 ∨ k = 3 by omega) with e | e | e | e <;> subst e <;> rfl
    simp only [Option.bind_some, q56, this]
  · rw [decide_eq_false hin, if_pos rfl]
theorem m_whole (hB : sx_BV h 4 tl ws L) : sx_Cl S 57 [.ref 3] h = some (.inl (some (.int (sz 0))), h) := by
  obtain ⟨f0, f1, f3, f4, f5, f6, f8, f10, f11, k2, k3, k11, k13, k15, hl⟩ := hB.g
  have y5 := sx_fld_of (f := 5) hB.2.2.1.1 rfl
  have hz : ∀ k : Int, (-1000 ≤ k ∧ k ≤ 1000) → sx_Cl S 56 [.ref 3, .int (sz k)] h = some (.inl (some (.int (sz 0))), h) := fun k hk => m_stockOf hB hk
  have key : ∀ (n i : Nat), i + n = 4 → sx_Ev S 57 4 [some (.ref 3), some (.int (sz 0)), some (.int (sz i))] [] h = some (.inl (some (.int (sz 0))), h) := by
    intro n
    induction n with
    | zero =>
      intro i hi
      rw [h57_4]
      simp (disch := omega) only [q57, y5, Option.bind_some, sz_lt0, sz_lt, sz_0lt, sz_mul, sz_add, sz_sub, sz_eq0, sz_eq, sz_nat, List.length_map, nb0, nb1, bz_eq0, ↓reduceIte, Int.reduceEq, Int.reduceLT, Int.reduceAdd, Int.reduceSub, Int.reduceMul, Int.reduceNeg]
      rw [if_neg (by omega)]
    | succ n ih =>
      intro i hi
      have hi1 : (i : Int) + 1 = ((i + 1 : Nat) : Int) := by omega
      have e := hz i (by omega)
      rw [h57_4]
      simp (disch := omega) only [q57, y5, e, hi1, Option.bind_some, sz_lt0, sz_lt, sz_0lt, sz_mul, sz_add, sz_sub, sz_eq0, sz_eq, sz_nat, List.length_map, nb0, nb1, bz_eq0, ↓reduceIte, Int.reduceEq, Int.reduceLT, Int.reduceAdd, Int.reduceSub, Int.reduceMul, Int.reduceNeg]
      rw [if_pos (by omega)]
      exact ih (i + 1) (by omega)
  simp (disch := omega) only [c57_q, q57, Option.bind_some, sz_lt0, sz_lt, sz_0lt, sz_mul, sz_add, sz_sub, sz_eq0, sz_eq, sz_nat, List.length_map, nb0, nb1, bz_eq0, ↓reduceIte, Int.reduceEq, Int.reduceLT, Int.reduceAdd, Int.reduceSub, Int.reduceMul, Int.reduceNeg]
  exact key 4 0 (by omega)
theorem m_beads (hB : sx_BV h n tl ws L) {s : Int} (hs : 101 ≤ s ∧ s ≤ 1000) : sx_Cl S 94 [.ref 2, .int (sz s)] h = some (.inl (some (.int (sz 0))), h) := by
  obtain ⟨f0, f1, f3, f4, f5, f6, f8, f10, f11, k2, k3, k11, k13, k15, hl⟩ := hB.g
  have key : ∀ (m i : Nat) (l4 : Option Value), i + m = L.length → sx_Ev S 94 4 [some (.ref 2), some (.int (sz s)), some (.int (sz 0)), some (.int (sz i)), l4] [] h = some (.inl (some (.int (sz 0))), h) := by
    intro m
    induction m with
    | zero =>
      intro i l4 hi
      rw [h94_4]
      simp (disch := omega) only [q94, f6, Option.bind_some, sz_lt0, sz_lt, sz_0lt, sz_mul, sz_add, sz_sub, sz_eq0, sz_eq, sz_nat, List.length_map, nb0, nb1, bz_eq0, ↓reduceIte, Int.reduceEq, Int.reduceLT, Int.reduceAdd, Int.reduceSub, Int.reduceMul, Int.reduceNeg]
      rw [if_neg (by omega)]
    | succ m ih =>
      intro i l4 hi
      have hi1 : (i : Int) + 1 = ((i + 1 : Nat) : Int) := by omega
      obtain ⟨⟨d, D⟩, hx⟩ : ∃ x, L[i]? = some x := ⟨L[i], List.getElem?_eq_getElem (by omega)⟩
      have hx' : 0 ≤ (i : Int) ∧ L[(i : Int).toNat]? = some (d, D) := ⟨by omega, hx⟩
      have e := o_clothOf (S := S) hB hx'
      have f9 := ((hB.cl hx').2.f (S := S)).2.2.2.2.2.2.1
      rw [h94_4]
      simp (disch := omega) only [q94, f6, e, f9, hi1, Option.bind_some, sz_lt0, sz_lt, sz_0lt, sz_mul, sz_add, sz_sub, sz_eq0, sz_eq, sz_nat, List.length_map, nb0, nb1, bz_eq0, ↓reduceIte, Int.reduceEq, Int.reduceLT, Int.reduceAdd, Int.reduceSub, Int.reduceMul, Int.reduceNeg]
      rw [if_pos (by omega), if_neg (by omega)]
      exact ih (i + 1) _ (by omega)
  simp (disch := omega) only [c94_q, q94, Option.bind_some, sz_lt0, sz_lt, sz_0lt, sz_mul, sz_add, sz_sub, sz_eq0, sz_eq, sz_nat, List.length_map, nb0, nb1, bz_eq0, ↓reduceIte, Int.reduceEq, Int.reduceLT, Int.reduceAdd, Int.reduceSub, Int.reduceMul, Int.reduceNeg]
  exact key L.length 0 none (by omega)
theorem m_sound (hB : sx_BV h 4 tl ws L) : sx_Cl S 95 [.ref 2] h = some (.inl (some (.int (sz 1))), h) := by
  obtain ⟨f0, f1, f3, f4, f5, f6, f8, f10, f11, k2, k3, k11, k13, k15, hl⟩ := hB.g
  have n0 := nb0
  have n1 := nb1
  have e1 := m_whole (S := S) hB
  have e2 := m_beads (S := S) hB (s := 119) (by omega)
  have e3 := m_beads (S := S) hB (s := 103) (by omega)
  have e4 := m_beads (S := S) hB (s := 115) (by omega)
  have y1 := sx_fld_of (f := 1) hB.2.2.2.1 rfl
  have e5 : sx_Cl S 60 [.ref 11] h = some (.inl (some (.int (sz 0))), h) := by
    simp (disch := omega) only [c60_q, q60, y1, Option.bind_some, sz_lt0, sz_lt, sz_0lt, sz_mul, sz_add, sz_sub, sz_eq0, sz_eq, sz_nat, List.length_map, nb0, nb1, bz_eq0, ↓reduceIte, Int.reduceEq, Int.reduceLT, Int.reduceAdd, Int.reduceSub, Int.reduceMul, Int.reduceNeg]
  have key : ∀ (m i : Nat), i + m = L.length → sx_Ev S 95 54 [some (.ref 2), some (.int (sz 0)), some (.int (sz i))] [] h = some (.inl (some (.int (sz 1))), h) := by
    intro m
    induction m with
    | zero =>
      intro i hi
      rw [h95_54]
      simp (disch := omega) only [q95, f6, Option.bind_some, sz_lt0, sz_lt, sz_0lt, sz_mul, sz_add, sz_sub, sz_eq0, sz_eq, sz_nat, List.length_map, nb0, nb1, bz_eq0, ↓reduceIte, Int.reduceEq, Int.reduceLT, Int.reduceAdd, Int.reduceSub, Int.reduceMul, Int.reduceNeg]
      rw [if_neg (by omega)]
    | succ m ih =>
      intro i hi
      have hi1 : (i : Int) + 1 = ((i + 1 : Nat) : Int) := by omega
      obtain ⟨⟨d, D⟩, hx⟩ : ∃ x, L[i]? = some x := ⟨L[i], List.getElem?_eq_getElem (by omega)⟩
      have hx' : 0 ≤ (i : Int) ∧ L[(i : Int).toNat]? = some (d, D) := ⟨by omega, hx⟩
      have e := o_clothOf (S := S) hB hx'
      have e6 := m_holds (S := S) (hB.cl hx').2
      have fk := ((hB.cl hx').2.f (S := S)).2.2.2.2.2.2.2.2.1
      rw [h95_54]
      simp (disch := omega) only [q95, f6, e, e6, hi1, Option.bind_some, sz_lt0, sz_lt, sz_0lt, sz_mul, sz_add, sz_sub, sz_eq0, sz_eq, sz_nat, List.length_map, nb0, nb1, bz_eq0, ↓reduceIte, Int.reduceEq, Int.reduceLT, Int.reduceAdd, Int.reduceSub, Int.reduceMul, Int.reduceNeg]
      rw [if_pos (by omega)]
      exact ih (i + 1) (by omega)
  simp (disch := omega) only [c95_q, q95, f0, f3, f10, f11, e1, e2, e3, e4, e5, Option.bind_some, sz_lt0, sz_lt, sz_0lt, sz_mul, sz_add, sz_sub, sz_eq0, sz_eq, sz_nat, List.length_map, nb0, nb1, bz_eq0, ↓reduceIte, Int.reduceEq, Int.reduceLT, Int.reduceAdd, Int.reduceSub, Int.reduceMul, Int.reduceNeg]
  exact key L.length 0 (by omega)
end SXC3
