/-! THE LAW: a row is read -/
theorem g_gk {C : Clo} {r x : Nat} (hr : r < C.nr) (hx : x < C.nc) : C.g r x = C.gk (r * C.nc + x) := by
  unfold Clo.g Clo.gk
  rw [if_pos (by omega)]
  congr 2
theorem gk_3 {C : Clo} (hC : C.ok) (j : Nat) : (C.ks.getD j 0 < 0 ∧ C.gk j = -1) ∨ (0 ≤ C.ks.getD j 0 ∧ C.ks.getD j 0 - (C.ks.getD j 0).tdiv 3 * 3 = C.gk j ∧ 0 ≤ C.gk j ∧ C.gk j ≤ 2) := by
  obtain ⟨g1, g2⟩ := gk_of hC j
  by_cases q : C.ks.getD j 0 < 0
  · exact Or.inl ⟨q, g1 q⟩
  · obtain ⟨e1, e2, e3⟩ := g2 (by omega)
    exact Or.inr ⟨by omega, e1.symm, e2, e3⟩
def Clo.go (C : Clo) (r x : Nat) : Bool := decide (0 < x ∧ C.g r x ≠ -1 ∧ C.g r ((x : Int) - 1) = C.g r x)
def Clo.wdt (C : Clo) (ws : List Int) (r : Int) (x : Nat) : Int := if 0 ≤ C.k (r * C.nc + x) ∧ C.k (r * C.nc + x) < 4 then ws.getD (C.k (r * C.nc + x)).toNat 0 else 0
section SXO
variable {S : List Int32} {h : sx_H} {ws wl : List Int} {c a N : Nat} {C : Clo}
theorem L1_rd (hL : sx_L1 h ws wl c a C N) {i : Nat} (hi : i < C.ks.length) : sx_rd S h a (sz i) = some (sz (C.ks.getD i 0)) := by
  obtain ⟨hB, hw, ha, hadd, hdim, hn1, hn2⟩ := hL
  have hC := (hB.cl (i := 0) ⟨by decide, rfl⟩).2.1
  have hlen : C.ks.length ≤ 144 := by rw [hC.2.2.1]; exact mulN_bd hC.2.1.2 hC.1.2
  have r1 := sx_rd_of (S := S) (x := (i : Int)) ha (by omega) (by omega)
  rw [show (i : Int).toNat = i by omega] at r1
  exact r1
theorem L1_ok (hL : sx_L1 h ws wl c a C N) : C.ok := (hL.1.cl (i := 0) ⟨by decide, rfl⟩).2.1
theorem L1_len (hL : sx_L1 h ws wl c a C N) : C.ks.length ≤ 30 := by
  have hC := L1_ok hL
  rw [hC.2.2.1]
  have h1 := hL.2.2.2.2.1
  exact Nat.le_trans (Nat.mul_le_mul h1.2 h1.1) (by decide)
theorem L_O1 (hL : sx_L1 h ws wl c a C N) {r x : Nat} (hr : r < C.nr) (hx : x < C.nc) (t2 : Int) {l10 l11 l12 l13 l14 l15 l16 l17 l18 l19 l20 l21 l22 l23 l25 l27 l29 l30 l31 l32 : Option Value} :
    sx_Ev S 121 1370 [some (.ref 0), some (.ref 2), some (.ref 17), some (.ref 18), some (.ref 19), some (.int (sz C.st)), some (.int (sz C.nc)), some (.int (sz C.nr)), some (.int (sz 1)), some (.ref a), l10, l11, l12, l13, l14, l15, l16, l17, l18, l19, l20, l21, l22, l23, some (.int (sz r)), l25, some (.int (sz t2)), l27, some (.int (sz x)), l29, l30, l31, l32] [] h =
    sx_Ev S 121 1408 [some (.ref 0), some (.ref 2), some (.ref 17), some (.ref 18), some (.ref 19), some (.int (sz C.st)), some (.int (sz C.nc)), some (.int (sz C.nr)), some (.int (sz 1)), some (.ref a), l10, l11, l12, l13, l14, l15, l16, l17, l18, l19, l20, l21, l22, l23, some (.int (sz r)), l25, some (.int (sz (t2 + C.wdt ws r x))), l27, some (.int (sz x)), some (.int (sz (C.ks.getD (r * C.nc + x) 0))), l30, l31, l32] [] h := by
  have hC := L1_ok hL
  have hlen := L1_len hL
  have hi : r * C.nc + x < C.ks.length := by rw [hC.2.2.1]; exact rx_lt hr hx
  have rd := L1_rd (S := S) hL hi
  have hidx : (r : Int) * C.nc + x = ((r * C.nc + x : Nat) : Int) := by rw [Int.natCast_add, Int.natCast_mul]
  have hkb := kk_bd hC (r * C.nc + x)
  have hk := kk_k hi
  have hdim := hL.2.2.2.2.1
  unfold Clo.wdt
  rw [hidx, hk]
  rw [h121_1370]
  have hcx : ((x : Int) < C.nc) = True := eq_true (by omega)
  by_cases q : C.ks.getD (r * C.nc + x) 0 < 0
  · simp (maxSteps := 2000000) (disch := omega) only [e121_1372, e121_1374, e121_1377, e121_1379, e121_1381, e121_1383, e121_1384, e121_1386, e121_1387, e121_1388, e121_1390, e121_1392, e121_1394, e121_1397, e121_1398, e121_1401, e121_1402, e121_1404, e121_1405, e121_1406, hidx, rd, hcx, Option.bind_some, sz_lt0, sz_lt, sz_0lt, sz_mul, sz_add, sz_sub, sz_eq0, sz_eq, sz_nat, List.length_map, nb0, nb1, bz_eq0, ↓reduceIte, Int.reduceEq, Int.reduceLT, Int.reduceAdd, Int.reduceSub, Int.reduceMul, Int.reduceNeg]
    rw [if_pos q, if_neg (by omega)]
  · have r2 := sx_rd_of (S := S) (x := C.ks.getD (r * C.nc + x) 0) hL.2.1.1 (by rw [hL.2.1.2.1]; omega) (by rw [hL.2.1.2.1]; omega)
    rw [hL.2.1.2.2.1 _ (by omega)] at r2
    simp (maxSteps := 2000000) (disch := omega) only [e121_1372, e121_1374, e121_1377, e121_1379, e121_1381, e121_1383, e121_1384, e121_1386, e121_1387, e121_1388, e121_1390, e121_1392, e121_1394, e121_1397, e121_1398, e121_1401, e121_1402, e121_1404, e121_1405, e121_1406, hidx, rd, hcx, r2, Option.bind_some, sz_lt0, sz_lt, sz_0lt, sz_mul, sz_add, sz_sub, sz_eq0, sz_eq, sz_nat, List.length_map, nb0, nb1, bz_eq0, ↓reduceIte, Int.reduceEq, Int.reduceLT, Int.reduceAdd, Int.reduceSub, Int.reduceMul, Int.reduceNeg]
    rw [if_neg q, if_pos (by omega)]
theorem L_O2 (hL : sx_L1 h ws wl c a C N) {r x : Nat} (hr : r < C.nr) (hx : x < C.nc) {l10 l11 l12 l13 l14 l15 l16 l17 l18 l19 l20 l21 l22 l23 l25 l26 l27 l30 l31 l32 : Option Value} :
    sx_Ev S 121 1408 [some (.ref 0), some (.ref 2), some (.ref 17), some (.ref 18), some (.ref 19), some (.int (sz C.st)), some (.int (sz C.nc)), some (.int (sz C.nr)), some (.int (sz 1)), some (.ref a), l10, l11, l12, l13, l14, l15, l16, l17, l18, l19, l20, l21, l22, l23, some (.int (sz r)), l25, l26, l27, some (.int (sz x)), some (.int (sz (C.ks.getD (r * C.nc + x) 0))), l30, l31, l32] [] h =
    sx_Ev S 121 1463 [some (.ref 0), some (.ref 2), some (.ref 17), some (.ref 18), some (.ref 19), some (.int (sz C.st)), some (.int (sz C.nc)), some (.int (sz C.nr)), some (.int (sz 1)), some (.ref a), l10, l11, l12, l13, l14, l15, l16, l17, l18, l19, l20, l21, l22, l23, some (.int (sz r)), l25, l26, l27, some (.int (sz x)), some (.int (sz (C.ks.getD (r * C.nc + x) 0))), some (.int (sz (bz (C.go r x)))), l31, l32] [] h := by
  have hC := L1_ok hL
  have hlen := L1_len hL
  have hi : r * C.nc + x < C.ks.length := by rw [hC.2.2.1]; exact rx_lt hr hx
  have hidx : (r : Int) * C.nc + x = ((r * C.nc + x : Nat) : Int) := by rw [Int.natCast_add, Int.natCast_mul]
  have hkb := kk_bd hC (r * C.nc + x)
  have g0 := gk_3 hC (r * C.nc + x)
  unfold Clo.go
  rw [g_gk hr hx]
  by_cases hx0 : x = 0
  · simp (maxSteps := 2000000) (disch := omega) only [e121_1408, e121_1410, e121_1413, e121_1415, e121_1418, e121_1420, e121_1422, e121_1424, e121_1425, e121_1427, e121_1428, e121_1429, e121_1430, e121_1431, e121_1434, e121_1436, e121_1438, e121_1440, e121_1441, e121_1443, e121_1444, e121_1445, e121_1446, e121_1447, e121_1448, e121_1449, e121_1451, e121_1452, e121_1453, e121_1456, e121_1457, e121_1460, e121_1461, hidx, Option.bind_some, sz_lt0, sz_lt, sz_0lt, sz_mul, sz_add, sz_sub, sz_eq0, sz_eq, sz_nat, List.length_map, nb0, nb1, bz_eq0, ↓reduceIte, Int.reduceEq, Int.reduceLT, Int.reduceAdd, Int.reduceSub, Int.reduceMul, Int.reduceNeg]
    rw [if_neg (by omega), decide_eq_false (by omega)]
    rfl
  · have rd2 := L1_rd (S := S) hL (i := r * C.nc + x - 1) (by omega)
    rw [show ((r * C.nc + x - 1 : Nat) : Int) = ((r * C.nc + x : Nat) : Int) - 1 by omega] at rd2
    have g1 := gk_3 hC (r * C.nc + x - 1)
    have hkb1 := kk_bd hC (r * C.nc + x - 1)
    have hg1 : C.g r ((x : Int) - 1) = C.gk (r * C.nc + x - 1) := by
      have := g_gk (C := C) (r := r) (x := x - 1) hr (by omega)
      rw [show ((x - 1 : Nat) : Int) = (x : Int) - 1 by omega, show r * C.nc + (x - 1) = r * C.nc + x - 1 by omega] at this
      exact this
    rw [hg1]
    have m1 := rem_bd (a := C.ks.getD (r * C.nc + x) 0) (b := 3) (by omega)
    have m2 := rem_bd (a := C.ks.getD (r * C.nc + x - 1) 0) (b := 3) (by omega)
    simp (maxSteps := 2000000) (disch := omega) only [e121_1408, e121_1410, e121_1413, e121_1415, e121_1418, e121_1420, e121_1422, e121_1424, e121_1425, e121_1427, e121_1428, e121_1429, e121_1430, e121_1431, e121_1434, e121_1436, e121_1438, e121_1440, e121_1441, e121_1443, e121_1444, e121_1445, e121_1446, e121_1447, e121_1448, e121_1449, e121_1451, e121_1452, e121_1453, e121_1456, e121_1457, e121_1460, e121_1461, hidx, rd2, sz_tdiv, Option.bind_some, sz_lt0, sz_lt, sz_0lt, sz_mul, sz_add, sz_sub, sz_eq0, sz_eq, sz_nat, List.length_map, nb0, nb1, bz_eq0, ↓reduceIte, Int.reduceEq, Int.reduceLT, Int.reduceAdd, Int.reduceSub, Int.reduceMul, Int.reduceNeg]
    repeat' split
    all_goals first
      | (exfalso; omega)
      | (rw [decide_eq_true (by omega)]; rfl)
      | (rw [decide_eq_false (by omega)]; rfl)
theorem L_O3 {k : Int} (hk : -1 ≤ k ∧ k ≤ 3) (go : Bool) (t1 : Int) {l10 l11 l12 l13 l14 l15 l16 l17 l18 l19 l20 l21 l22 l23 l24 l26 l27 l28 l31 l32 : Option Value} :
    sx_Ev S 121 1463 [some (.ref 0), some (.ref 2), some (.ref 17), some (.ref 18), some (.ref 19), some (.int (sz C.st)), some (.int (sz C.nc)), some (.int (sz C.nr)), some (.int (sz 1)), some (.ref a), l10, l11, l12, l13, l14, l15, l16, l17, l18, l19, l20, l21, l22, l23, l24, some (.int (sz t1)), l26, l27, l28, some (.int (sz k)), some (.int (sz (bz go))), l31, l32] [] h =
    sx_Ev S 121 1483 [some (.ref 0), some (.ref 2), some (.ref 17), some (.ref 18), some (.ref 19), some (.int (sz C.st)), some (.int (sz C.nc)), some (.int (sz C.nr)), some (.int (sz 1)), some (.ref a), l10, l11, l12, l13, l14, l15, l16, l17, l18, l19, l20, l21, l22, l23, l24, some (.int (sz (t1 + bz (decide (0 ≤ k) && !go)))), l26, l27, l28, some (.int (sz k)), some (.int (sz (bz go))), l31, l32] [] h := by
  simp (maxSteps := 2000000) (disch := omega) only [e121_1463, e121_1465, e121_1467, e121_1470, e121_1472, e121_1475, e121_1476, e121_1479, e121_1480, e121_1481, Option.bind_some, sz_lt0, sz_lt, sz_0lt, sz_mul, sz_add, sz_sub, sz_eq0, sz_eq, sz_nat, List.length_map, nb0, nb1, bz_eq0, ↓reduceIte, Int.reduceEq, Int.reduceLT, Int.reduceAdd, Int.reduceSub, Int.reduceMul, Int.reduceNeg]
  by_cases q : k < 0
  · rw [if_pos q, decide_eq_false (by omega)]; rfl
  · rw [if_neg q, decide_eq_true (by omega)]
    cases go
    · rw [if_pos rfl]; rfl
    · rw [if_neg (by simp)]; rfl
theorem L_O4 {k : Int} (hk : -1 ≤ k ∧ k ≤ 3) (go : Bool) (t3 : Int) {l10 l11 l12 l13 l14 l15 l16 l17 l18 l19 l20 l21 l22 l23 l24 l25 l26 l28 l31 l32 : Option Value} :
    sx_Ev S 121 1483 [some (.ref 0), some (.ref 2), some (.ref 17), some (.ref 18), some (.ref 19), some (.int (sz C.st)), some (.int (sz C.nc)), some (.int (sz C.nr)), some (.int (sz 1)), some (.ref a), l10, l11, l12, l13, l14, l15, l16, l17, l18, l19, l20, l21, l22, l23, l24, l25, l26, some (.int (sz t3)), l28, some (.int (sz k)), some (.int (sz (bz go))), l31, l32] [] h =
    sx_Ev S 121 1507 [some (.ref 0), some (.ref 2), some (.ref 17), some (.ref 18), some (.ref 19), some (.int (sz C.st)), some (.int (sz C.nc)), some (.int (sz C.nr)), some (.int (sz 1)), some (.ref a), l10, l11, l12, l13, l14, l15, l16, l17, l18, l19, l20, l21, l22, l23, l24, l25, l26, some (.int (sz (if go = true then t3 + 1 else if 0 ≤ k then 1 else 0))), l28, some (.int (sz k)), some (.int (sz (bz go))), l31, l32] [] h := by
  simp (maxSteps := 2000000) (disch := omega) only [e121_1483, e121_1485, e121_1488, e121_1490, e121_1491, e121_1492, e121_1495, e121_1497, e121_1500, e121_1501, e121_1504, e121_1505, Option.bind_some, sz_lt0, sz_lt, sz_0lt, sz_mul, sz_add, sz_sub, sz_eq0, sz_eq, sz_nat, List.length_map, nb0, nb1, bz_eq0, ↓reduceIte, Int.reduceEq, Int.reduceLT, Int.reduceAdd, Int.reduceSub, Int.reduceMul, Int.reduceNeg]
  cases go
  · rw [if_pos rfl]
    by_cases q : k < 0
    · rw [if_pos q, if_neg (by simp), if_neg (by omega)]
    · rw [if_neg q, if_neg (by simp), if_pos (by omega)]
  · rw [if_neg (by simp), if_pos rfl]
theorem L_O5 (hL : sx_L1 h ws wl c a C N) {r x : Nat} (hr : r < C.nr) (hx : x < C.nc) {l10 l11 l12 l13 l14 l15 l16 l17 l18 l19 l20 l21 l22 l23 l25 l26 l27 l30 l31 l32 : Option Value} :
    sx_Ev S 121 1507 [some (.ref 0), some (.ref 2), some (.ref 17), some (.ref 18), some (.ref 19), some (.int (sz C.st)), some (.int (sz C.nc)), some (.int (sz C.nr)), some (.int (sz 1)), some (.ref a), l10, l11, l12, l13, l14, l15, l16, l17, l18, l19, l20, l21, l22, l23, some (.int (sz r)), l25, l26, l27, some (.int (sz x)), some (.int (sz (C.ks.getD (r * C.nc + x) 0))), l30, l31, l32] [] h =
    sx_Ev S 121 1566 [some (.ref 0), some (.ref 2), some (.ref 17), some (.ref 18), some (.ref 19), some (.int (sz C.st)), some (.int (sz C.nc)), some (.int (sz C.nr)), some (.int (sz 1)), some (.ref a), l10, l11, l12, l13, l14, l15, l16, l17, l18, l19, l20, l21, l22, l23, some (.int (sz r)), l25, l26, l27, some (.int (sz x)), some (.int (sz (C.ks.getD (r * C.nc + x) 0))), l30, some (.int (sz (bz (C.beg r x true)))), l32] [] h := by
  have hC := L1_ok hL
  have hlen := L1_len hL
  have hi : r * C.nc + x < C.ks.length := by rw [hC.2.2.1]; exact rx_lt hr hx
  have hidx : (r : Int) * C.nc + x = ((r * C.nc + x : Nat) : Int) := by rw [Int.natCast_add, Int.natCast_mul]
  have hkb := kk_bd hC (r * C.nc + x)
  have g0 := gk_3 hC (r * C.nc + x)
  have hdim := hL.2.2.2.2.1
  rw [C.beg_t, g_gk hr hx]
  by_cases hx0 : x = C.nc - 1
  · have hgo := C.g_out r ((x : Int) + 1) (by omega)
    rw [hgo]
    simp (maxSteps := 2000000) (disch := omega) only [e121_1507, e121_1509, e121_1512, e121_1514, e121_1516, e121_1517, e121_1518, e121_1521, e121_1523, e121_1525, e121_1527, e121_1528, e121_1530, e121_1531, e121_1532, e121_1533, e121_1534, e121_1537, e121_1539, e121_1541, e121_1543, e121_1544, e121_1546, e121_1547, e121_1548, e121_1549, e121_1550, e121_1551, e121_1552, e121_1554, e121_1555, e121_1556, e121_1559, e121_1560, e121_1563, e121_1564, hidx, Option.bind_some, sz_lt0, sz_lt, sz_0lt, sz_mul, sz_add, sz_sub, sz_eq0, sz_eq, sz_nat, List.length_map, nb0, nb1, bz_eq0, ↓reduceIte, Int.reduceEq, Int.reduceLT, Int.reduceAdd, Int.reduceSub, Int.reduceMul, Int.reduceNeg]
    by_cases q : C.ks.getD (r * C.nc + x) 0 < 0
    · rw [if_pos q, decide_eq_false (by omega)]; rfl
    · rw [if_neg q, if_pos (by omega), decide_eq_true (by omega)]; rfl
  · have hi2 : r * C.nc + (x + 1) < C.ks.length := by rw [hC.2.2.1]; exact rx_lt hr (by omega)
    have rd2 := L1_rd (S := S) hL hi2
    rw [show ((r * C.nc + (x + 1) : Nat) : Int) = ((r * C.nc + x : Nat) : Int) + 1 by omega] at rd2
    have g1 := gk_3 hC (r * C.nc + (x + 1))
    have hkb1 := kk_bd hC (r * C.nc + (x + 1))
    have hg1 : C.g r ((x : Int) + 1) = C.gk (r * C.nc + (x + 1)) := by
      have := g_gk (C := C) (r := r) (x := x + 1) hr (by omega)
      rw [show ((x + 1 : Nat) : Int) = (x : Int) + 1 by omega] at this
      exact this
    rw [hg1]
    have m1 := rem_bd (a := C.ks.getD (r * C.nc + x) 0) (b := 3) (by omega)
    have m2 := rem_bd (a := C.ks.getD (r * C.nc + (x + 1)) 0) (b := 3) (by omega)
    simp (maxSteps := 2000000) (disch := omega) only [e121_1507, e121_1509, e121_1512, e121_1514, e121_1516, e121_1517, e121_1518, e121_1521, e121_1523, e121_1525, e121_1527, e121_1528, e121_1530, e121_1531, e121_1532, e121_1533, e121_1534, e121_1537, e121_1539, e121_1541, e121_1543, e121_1544, e121_1546, e121_1547, e121_1548, e121_1549, e121_1550, e121_1551, e121_1552, e121_1554, e121_1555, e121_1556, e121_1559, e121_1560, e121_1563, e121_1564, hidx, rd2, sz_tdiv, Option.bind_some, sz_lt0, sz_lt, sz_0lt, sz_mul, sz_add, sz_sub, sz_eq0, sz_eq, sz_nat, List.length_map, nb0, nb1, bz_eq0, ↓reduceIte, Int.reduceEq, Int.reduceLT, Int.reduceAdd, Int.reduceSub, Int.reduceMul, Int.reduceNeg]
    repeat' split
    all_goals first
      | (exfalso; omega)
      | (rw [decide_eq_true (by omega)]; rfl)
      | (rw [decide_eq_false (by omega)]; rfl)
/-- behind x - 1: the run that has begun at b, or none -/
def Clo.rin (C : Clo) (r : Nat) (x b : Nat) (t1 t3 : Int) : Prop := b ≤ x ∧ t3 = ((x - b : Nat) : Int) ∧ t1 = nsum (fun y => bz (C.beg r y false)) 0 x ∧ (∀ y : Nat, b ≤ y → y < x → C.g r y = C.g r b) ∧ (b < x → C.beg r b false = true ∧ nsum (fun y => bz (C.beg r y false)) 0 b + 1 = t1) ∧ (b = x → x = 0 ∨ C.g r ((x : Int) - 1) = -1)
theorem Clo.rin_step (C : Clo) {r x b : Nat} {t1 t3 k : Int} (hx : x < C.nc) (hi : C.rin r x b t1 t3) (hk : k < 0 ∧ C.g r x = -1 ∨ 0 ≤ k ∧ C.g r x ≠ -1) :
    ∃ b', C.rin r (x + 1) b' (t1 + bz (decide (0 ≤ k) && !C.go r x)) (if C.go r x = true then t3 + 1 else if 0 ≤ k then 1 else 0) ∧ (C.beg r x true = true → b' ≤ x) := by
  obtain ⟨i1, i2, i3, i4, i5, i6⟩ := hi
  have hbeg : bz (C.beg r x false) = bz (decide (0 ≤ k) && !C.go r x) := by
    rw [C.beg_f]
    unfold Clo.go
    by_cases h0 : x = 0
    · subst h0
      have := C.g_out r (((0 : Nat) : Int) - 1) (by omega)
      rw [this, decide_eq_false (p := 0 < 0 ∧ _) (by omega)]
      rcases hk with ⟨q1, q2⟩ | ⟨q1, q2⟩
      · rw [decide_eq_false (by omega), decide_eq_false (by omega)]; rfl
      · rw [decide_eq_true (by omega), decide_eq_true (by omega)]; rfl
    · rcases hk with ⟨q1, q2⟩ | ⟨q1, q2⟩
      · rw [decide_eq_false (by omega), decide_eq_false (p := 0 ≤ k) (by omega)]; rfl
      · rw [decide_eq_true (p := 0 ≤ k) q1]
        by_cases q3 : C.g r ((x : Int) - 1) = C.g r x
        · rw [decide_eq_false (by omega), decide_eq_true (p := 0 < x ∧ _) (by omega)]; rfl
        · rw [decide_eq_true (by omega), decide_eq_false (p := 0 < x ∧ _) (by omega)]; rfl
  have ht1 : t1 + bz (decide (0 ≤ k) && !C.go r x) = nsum (fun y => bz (C.beg r y false)) 0 (x + 1) := by
    rw [nsum_r', Nat.zero_add, hbeg, i3]
  by_cases hg : C.go r x = true
  · have hg2 := of_decide_eq_true hg
    have hbx : b < x := by
      rcases Nat.lt_or_ge b x with q | q
      · exact q
      · have := i6 (by omega); omega
    have hgb : C.g r ((x : Int) - 1) = C.g r b := by
      have := i4 (x - 1) (by omega) (by omega)
      rw [show ((x - 1 : Nat) : Int) = (x : Int) - 1 by omega] at this
      exact this
    refine ⟨b, ⟨by omega, ?_, ht1, ?_, ?_, fun q => by omega⟩, fun _ => by omega⟩
    · rw [if_pos hg]; omega
    · intro y h1 h2
      by_cases q : y = x
      · subst q; omega
      · exact i4 y h1 (by omega)
    · intro _
      obtain ⟨j1, j2⟩ := i5 hbx
      refine ⟨j1, ?_⟩
      rw [hg, Bool.not_true, Bool.and_false, bz_f, Int.add_zero]
      exact j2
  · have hgf : C.go r x = false := by simpa using hg
    rcases hk with ⟨q1, q2⟩ | ⟨q1, q2⟩
    · refine ⟨x + 1, ⟨Nat.le_refl _, ?_, ht1, fun y h1 h2 => by omega, fun q => by omega, fun _ => Or.inr ?_⟩, fun hb => ?_⟩
      · rw [if_neg hg, if_neg (by omega)]; omega
      · rw [show ((x + 1 : Nat) : Int) - 1 = x by omega]; exact q2
      · rw [C.beg_t] at hb
        have := of_decide_eq_true hb
        omega
    · refine ⟨x, ⟨by omega, ?_, ht1, ?_, ?_, fun q => by omega⟩, fun _ => Nat.le_refl _⟩
      · rw [if_neg hg, if_pos q1]; omega
      · intro y h1 h2
        rw [show y = x by omega]
      · intro _
        have hb1 : bz (C.beg r x false) = 1 := by rw [hbeg, hgf, decide_eq_true q1]; rfl
        refine ⟨?_, ?_⟩
        · cases e : C.beg r x false
          · rw [e] at hb1; exact absurd hb1 (by decide)
          · rfl
        · rw [← hbeg, hb1, i3]
theorem L_O6 (hS : S.length ≤ 260) (hL : sx_L1 h ws wl c a C N) {r x b : Nat} (hr : r < C.nr) (hx : x < C.nc) {t1 t3 : Int} (hin : C.rin r (x + 1) b t1 t3) (hb : C.beg r x true = true → b ≤ x) {l10 l11 l12 l13 l14 l15 l16 l17 l18 l19 l20 l21 l22 l23 l26 l30 l32 : Option Value} :
    sx_Ev S 121 1566 [some (.ref 0), some (.ref 2), some (.ref 17), some (.ref 18), some (.ref 19), some (.int (sz C.st)), some (.int (sz C.nc)), some (.int (sz C.nr)), some (.int (sz 1)), some (.ref a), l10, l11, l12, l13, l14, l15, l16, l17, l18, l19, l20, l21, l22, l23, some (.int (sz r)), some (.int (sz t1)), l26, some (.int (sz t3)), some (.int (sz x)), some (.int (sz (C.ks.getD (r * C.nc + x) 0))), l30, some (.int (sz (bz (C.beg r x true)))), l32] [] h =
    sx_Ev S 121 1370 [some (.ref 0), some (.ref 2), some (.ref 17), some (.ref 18), some (.ref 19), some (.int (sz C.st)), some (.int (sz C.nc)), some (.int (sz C.nr)), some (.int (sz 1)), some (.ref a), l10, l11, l12, l13, l14, l15, l16, l17, l18, l19, l20, l21, l22, l23, some (.int (sz r)), some (.int (sz t1)), l26, some (.int (sz t3)), some (.int (sz ((x + 1 : Nat) : Int))), some (.int (sz (C.ks.getD (r * C.nc + x) 0))), l30, some (.int (sz (bz (C.beg r x true)))), l32] [] h := by
  have hC := L1_ok hL
  have hB := hL.1
  have hdim := hL.2.2.2.2.1
  have hx1 : (x : Int) + 1 = ((x + 1 : Nat) : Int) := by omega
  by_cases he : C.beg r x true = true
  · have hbx := hb he
    obtain ⟨i1, i2, i3, i4, i5, i6⟩ := hin
    obtain ⟨j1, j2⟩ := i5 (by omega)
    have he2 := he
    rw [C.beg_t] at he2
    have he2 := of_decide_eq_true he2
    have hgx := i4 x (by omega) (by omega)
    have hgk := g_gk (C := C) hr hx
    have g0 := gk_3 hC (r * C.nc + x)
    have hkb := kk_bd hC (r * C.nc + x)
    have hnb := nsum_bz_nn (fun y => C.beg r y false) b 0
    have hrb := nsum_bz_nn (fun y => C.beg r y false) C.nc 0
    have hrr : C.runs r = nsum (fun y => bz (C.beg r y false)) 0 C.nc := rfl
    have ft := C.frun_l r (b := b) (by omega) j1
    rw [show nsum (fun y => bz (C.beg r y false)) 0 b = t1 - 1 by omega] at ft
    have fr := C.frun_r r hx he
    rw [← i3] at fr
    have hg2 : C.g r ((b : Int) - 1) ≠ C.g r x := by
      rw [C.beg_f] at j1
      have := of_decide_eq_true j1
      omega
    have cl := C.cells_l r (b := b) (x := x) (by omega) (fun y h1 h2 => i4 y h1 (by omega)) (by rw [← hgx]; omega)
    have cr := C.cells_r r (b := b) (x := x) (by omega) (fun y h1 h2 => by rw [hgx]; exact i4 y h1 (by omega)) hg2
    have ht3 : ((x + 1 - b : Nat) : Int) = t3 := i2.symm
    rw [ht3] at cl cr
    obtain ⟨v, hv, pv⟩ := m_in (S := S) (i := 9) (n := 3) (by omega) (by omega) (by omega)
    have w1 := w_runLength (S := S) hB (i := 0) ⟨by decide, rfl⟩ (r := r) (k := t1 - 1) false (by omega) (by omega) (by rw [ft]; omega)
    have w2 := w_runColour (S := S) hB (i := 0) ⟨by decide, rfl⟩ (r := r) (k := t1 - 1) false (by omega) (by omega) (by rw [ft]; omega)
    have w3 := w_runWord (S := S) hB (i := 0) ⟨by decide, rfl⟩ (r := r) (k := t1 - 1) (u := v) (by omega) (by omega) (by omega) (by rw [ft]; omega)
    have w4 := w_runs (S := S) hB (i := 0) ⟨by decide, rfl⟩ (r := r) (by omega)
    have w5 := w_runLength (S := S) hB (i := 0) ⟨by decide, rfl⟩ (r := r) (k := C.runs r - t1) true (by omega) (by omega) (by rw [fr]; omega)
    have w6 := w_runColour (S := S) hB (i := 0) ⟨by decide, rfl⟩ (r := r) (k := C.runs r - t1) true (by omega) (by omega) (by rw [fr]; omega)
    rw [ft, cl, bz_f] at w1
    rw [ft, ← hgx, bz_f] at w2
    rw [ft, ← hgx] at w3
    rw [fr, cr, bz_t] at w5
    rw [fr, bz_t] at w6
    have hm : C.ks.getD (r * C.nc + x) 0 - (C.ks.getD (r * C.nc + x) 0).tdiv 3 * 3 = C.g r x := by rw [hgk]; omega
    have hgb := C.g_bd hC r x
    have htb : ((b : Int) = -1) = False := eq_false (by omega)
    rw [he, bz_t]
    simp (maxSteps := 2000000) (disch := omega) only [e121_1566, e121_1568, e121_1571, e121_1573, e121_1574, e121_1575, e121_1577, e121_1579, e121_1580, e121_1581, e121_1582, e121_1585, e121_1587, e121_1590, e121_1591, e121_1592, e121_1594, e121_1596, e121_1597, e121_1598, e121_1599, e121_1602, e121_1604, e121_1605, e121_1606, e121_1609, e121_1610, e121_1611, e121_1613, e121_1615, e121_1616, e121_1617, e121_1618, e121_1620, e121_1621, e121_1624, e121_1627, e121_1629, e121_1630, e121_1631, e121_1634, e121_1635, e121_1638, e121_1639, e121_1640, e121_1642, e121_1644, e121_1645, e121_1646, e121_1648, e121_1649, e121_1650, e121_1652, e121_1655, e121_1657, e121_1658, e121_1659, e121_1662, e121_1664, e121_1667, e121_1668, e121_1669, e121_1671, e121_1672, e121_1673, e121_1675, e121_1678, e121_1680, e121_1681, e121_1682, e121_1685, e121_1687, e121_1688, e121_1689, e121_1692, e121_1693, e121_1696, e121_1697, e121_1698, e121_1700, e121_1703, w1, w2, w3, pv, w4, w5, w6, sz_tdiv, hm, sz_and11, hx1, eq_self, Option.bind_some, sz_lt0, sz_lt, sz_0lt, sz_mul, sz_add, sz_sub, sz_eq0, sz_eq, sz_nat, List.length_map, nb0, nb1, bz_eq0, ↓reduceIte, Int.reduceEq, Int.reduceLT, Int.reduceAdd, Int.reduceSub, Int.reduceMul, Int.reduceNeg]
  · have he2 : C.beg r x true = false := by simpa using he
    rw [he2, bz_f]
    simp (maxSteps := 2000000) (disch := omega) only [e121_1566, e121_1568, e121_1571, e121_1573, e121_1574, e121_1575, e121_1577, e121_1579, e121_1580, e121_1581, e121_1582, e121_1585, e121_1587, e121_1590, e121_1591, e121_1592, e121_1594, e121_1596, e121_1597, e121_1598, e121_1599, e121_1602, e121_1604, e121_1605, e121_1606, e121_1609, e121_1610, e121_1611, e121_1613, e121_1615, e121_1616, e121_1617, e121_1618, e121_1620, e121_1621, e121_1624, e121_1627, e121_1629, e121_1630, e121_1631, e121_1634, e121_1635, e121_1638, e121_1639, e121_1640, e121_1642, e121_1644, e121_1645, e121_1646, e121_1648, e121_1649, e121_1650, e121_1652, e121_1655, e121_1657, e121_1658, e121_1659, e121_1662, e121_1664, e121_1667, e121_1668, e121_1669, e121_1671, e121_1672, e121_1673, e121_1675, e121_1678, e121_1680, e121_1681, e121_1682, e121_1685, e121_1687, e121_1688, e121_1689, e121_1692, e121_1693, e121_1696, e121_1697, e121_1698, e121_1700, e121_1703, hx1, Option.bind_some, sz_lt0, sz_lt, sz_0lt, sz_mul, sz_add, sz_sub, sz_eq0, sz_eq, sz_nat, List.length_map, nb0, nb1, bz_eq0, ↓reduceIte, Int.reduceEq, Int.reduceLT, Int.reduceAdd, Int.reduceSub, Int.reduceMul, Int.reduceNeg]
end SXO
