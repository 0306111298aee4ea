/-! THE LAW: guesses, and the rows' loop -/
theorem Clo.step_0 (C : Clo) (hC : C.ok) (r x s d : Int) (hd : 3 ≤ d) : C.step r x s d = 0 :=
  nsum_0 _ _ fun o _ _ => if_neg fun q => by have := C.g_bd hC r o; omega
section SXO3
variable {S : List Int32} {h : sx_H} {ws wl : List Int} {c a N : Nat} {C : Clo}
theorem L_Ob (hL : sx_L1 h ws wl c a C N) {r b at_ : Nat} {by_ A B D : Int} (hr : r < C.nr) (hat : at_ < C.nc) (hby : 1 ≤ by_ ∧ by_ ≤ 4) (hb : sx_get h b = some (.inl ([A, B, D].map sz))) (hA : A = C.step r at_ by_ 0) (hB : B = C.step r at_ by_ 1) (hD : D = C.step r at_ by_ 2) {l10 l11 l12 l13 l14 l15 l16 l17 l18 l19 l20 l21 l22 l23 l25 l26 l27 l31 l32 : Option Value}
    (nx : ∀ (h' : sx_H) (l25 l26 l27 l28 l29 l30 l31 l32 : Option Value), sx_L1 h' ws wl c a C (N + 14) → sx_OK S 1351 [some (.ref 0), some (.ref 2), some (.ref 17), some (.ref 18), some (.ref 19), some (.int (sz C.st)), some (.int (sz C.nc)), some (.int (sz C.nr)), some (.int (sz 1)), some (.ref a), l10, l11, l12, l13, l14, l15, l16, l17, l18, l19, l20, l21, l22, l23, some (.int (sz ((r + 1 : Nat) : Int))), l25, l26, l27, l28, l29, l30, l31, l32] h') :
    sx_OK S 1879 [some (.ref 0), some (.ref 2), some (.ref 17), some (.ref 18), some (.ref 19), some (.int (sz C.st)), some (.int (sz C.nc)), some (.int (sz C.nr)), some (.int (sz 1)), some (.ref a), l10, l11, l12, l13, l14, l15, l16, l17, l18, l19, l20, l21, l22, l23, some (.int (sz r)), l25, l26, l27, some (.int (sz by_)), some (.int (sz at_)), some (.ref b), l31, l32] h := by
  have hC := L1_ok hL
  have hdim := hL.2.2.2.2.1
  have hr1 : (r : Int) + 1 = ((r + 1 : Nat) : Int) := by omega
  have b0 := C.step_bd hC r at_ by_ 0
  have b1 := C.step_bd hC r at_ by_ 1
  have b2 := C.step_bd hC r at_ by_ 2
  have rd0 : sx_rd S h b (sz 0) = some (sz A) := sx_rd_of (x := 0) hb ⟨by decide, by show (0 : Int) < 3; decide⟩ (by show 3 ≤ 1000000000; decide)
  have rd1 : sx_rd S h b (sz 1) = some (sz B) := sx_rd_of (x := 1) hb ⟨by decide, by show (1 : Int) < 3; decide⟩ (by show 3 ≤ 1000000000; decide)
  have rd2 : sx_rd S h b (sz 2) = some (sz D) := sx_rd_of (x := 2) hb ⟨by decide, by show (2 : Int) < 3; decide⟩ (by show 3 ≤ 1000000000; decide)
  have e3 : C.step r at_ by_ ((3 : Nat) : Int) = 0 ∧ C.step r at_ by_ ((4 : Nat) : Int) = 0 ∧ C.step r at_ by_ ((5 : Nat) : Int) = 0 ∧ C.step r at_ by_ ((6 : Nat) : Int) = 0 ∧ C.step r at_ by_ ((7 : Nat) : Int) = 0 := ⟨C.step_0 hC _ _ _ _ (by decide), C.step_0 hC _ _ _ _ (by decide), C.step_0 hC _ _ _ _ (by decide), C.step_0 hC _ _ _ _ (by decide), C.step_0 hC _ _ _ _ (by decide)⟩
  have fq : ∀ p q : Int, p = (if A < B then 1 else 0) → q = (if (if A < B then B else A) < D then 2 else p) → C.freq r at_ by_ = if (if q = 2 then D else if q = 1 then B else A) = 0 then -1 else q := fun p q hp hq => by
    rw [hA, hB] at hp
    rw [hA, hB, hD] at hq
    rw [hA, hB, hD]
    exact nbest3 (fun d => C.step r at_ by_ d) b0.1 b1.1 b2.1 e3 hp hq
  -- what is guessed, by the best place q and its number v
  have go : ∀ q v : Int, C.freq r at_ by_ = (if v = 0 then -1 else q) → (0 ≤ q ∧ q ≤ 2) → 0 ≤ v ∧ v ≤ 12 → sx_rd S h b (sz q) = some (sz v) → ∃ h' : sx_H, sx_Ev S 121 1917 [some (.ref 0), some (.ref 2), some (.ref 17), some (.ref 18), some (.ref 19), some (.int (sz C.st)), some (.int (sz C.nc)), some (.int (sz C.nr)), some (.int (sz 1)), some (.ref a), l10, l11, l12, l13, l14, l15, l16, l17, l18, l19, l20, l21, l22, l23, some (.int (sz r)), l25, l26, l27, some (.int (sz by_)), some (.int (sz at_)), some (.ref b), some (.int (sz q)), l32] [] h = sx_Ev S 121 1351 [some (.ref 0), some (.ref 2), some (.ref 17), some (.ref 18), some (.ref 19), some (.int (sz C.st)), some (.int (sz C.nc)), some (.int (sz C.nr)), some (.int (sz 1)), some (.ref a), l10, l11, l12, l13, l14, l15, l16, l17, l18, l19, l20, l21, l22, l23, some (.int (sz ((r + 1 : Nat) : Int))), l25, l26, l27, some (.int (sz by_)), some (.int (sz at_)), some (.ref b), some (.int (sz q)), l32] [] h' ∧ sx_L1 h' ws wl c a C (N + 14) := by
    intro q v hf hq hv rd
    by_cases hv0 : v = 0
    · rw [if_pos hv0] at hf
      have w1 := w_guess_none (S := S) hL.1 (i := 0) ⟨by decide, rfl⟩ (r := r) (x := at_) (u := by_) (by omega) (by omega) (by omega) hf
      have hL1 := L1_exc hL
      have w2 := w_guess_no (S := S) hL1.1 (i := 0) ⟨by decide, rfl⟩ (r := r) (x := at_) (u := 13) (by omega) (by omega) (by omega)
      have rdx : sx_rd S (sx_push h none 6) b (sz q) = some (sz v) := by
        have hb' := sx_get_push (c := none) (n := 6) hb
        have e1 := sx_rd_of (S := S) (x := q) hb ⟨hq.1, by show q < 3; omega⟩ (by show 3 ≤ 1000000000; decide)
        have e2 := sx_rd_of (S := S) (x := q) hb' ⟨hq.1, by show q < 3; omega⟩ (by show 3 ≤ 1000000000; decide)
        rw [e2, ← e1, rd]
      refine ⟨_, ?_, L1_mono (L1_exc hL1) (by omega)⟩
      subst hv0
      simp (maxSteps := 2000000) (disch := omega) only [e121_1917, e121_1919, e121_1920, e121_1921, e121_1923, e121_1925, e121_1927, e121_1930, e121_1932, e121_1934, e121_1935, e121_1938, e121_1940, e121_1943, e121_1945, e121_1948, e121_1949, e121_1950, e121_1952, e121_1954, e121_1956, e121_1959, e121_1961, e121_1964, e121_1965, e121_1968, e121_1969, e121_1970, e121_1972, e121_1975, w1, rdx, w2, sz_and11, hr1, eq_self, Option.bind_some, sz_lt0, sz_lt, sz_0lt, sz_mul, sz_add, sz_sub, sz_eq0, sz_eq, sz_nat, List.length_map, nb0, nb1, bz_eq0, ↓reduceIte, Int.reduceEq, Int.reduceLT, Int.reduceAdd, Int.reduceSub, Int.reduceMul, Int.reduceNeg]
    · rw [if_neg hv0] at hf
      have w1 := w_guess (S := S) hL.1 (i := 0) ⟨by decide, rfl⟩ (r := r) (x := at_) (u := by_) (by omega) (by omega) (by omega) (by rw [hf]; omega)
      rw [hf] at w1
      have w2 := w_guess_no (S := S) hL.1 (i := 0) ⟨by decide, rfl⟩ (r := r) (x := at_) (u := 13) (by omega) (by omega) (by omega)
      refine ⟨_, ?_, L1_mono (L1_exc hL) (by omega)⟩
      simp (maxSteps := 2000000) (disch := omega) only [e121_1917, e121_1919, e121_1920, e121_1921, e121_1923, e121_1925, e121_1927, e121_1930, e121_1932, e121_1934, e121_1935, e121_1938, e121_1940, e121_1943, e121_1945, e121_1948, e121_1949, e121_1950, e121_1952, e121_1954, e121_1956, e121_1959, e121_1961, e121_1964, e121_1965, e121_1968, e121_1969, e121_1970, e121_1972, e121_1975, w1, rd, w2, sz_and11, hr1, eq_self, Option.bind_some, sz_lt0, sz_lt, sz_0lt, sz_mul, sz_add, sz_sub, sz_eq0, sz_eq, sz_nat, List.length_map, nb0, nb1, bz_eq0, ↓reduceIte, Int.reduceEq, Int.reduceLT, Int.reduceAdd, Int.reduceSub, Int.reduceMul, Int.reduceNeg]
      rw [if_neg hv0]
  have fin : ∀ q v : Int, C.freq r at_ by_ = (if v = 0 then -1 else q) → (0 ≤ q ∧ q ≤ 2) → 0 ≤ v ∧ v ≤ 12 → sx_rd S h b (sz q) = some (sz v) → sx_OK S 1917 [some (.ref 0), some (.ref 2), some (.ref 17), some (.ref 18), some (.ref 19), some (.int (sz C.st)), some (.int (sz C.nc)), some (.int (sz C.nr)), some (.int (sz 1)), some (.ref a), l10, l11, l12, l13, l14, l15, l16, l17, l18, l19, l20, l21, l22, l23, some (.int (sz r)), l25, l26, l27, some (.int (sz by_)), some (.int (sz at_)), some (.ref b), some (.int (sz q)), l32] h := by
    intro q v hf hq hv rd
    obtain ⟨h', e1, e2⟩ := go q v hf hq hv rd
    have := nx h' l25 l26 l27 (some (.int (sz by_))) (some (.int (sz at_))) (some (.ref b)) (some (.int (sz q))) l32 e2
    exact this.of e1
  unfold sx_OK at fin ⊢
  by_cases c1 : A < B
  · by_cases c2 : B < D
    · have hf := fq 1 2 (by rw [if_pos c1]) (by rw [if_pos c1, if_pos c2])
      have := fin 2 D hf (by omega) (by omega) rd2
      have k1 : (A < B) = True := eq_true c1
      have k2 : (B < D) = True := eq_true c2
      simp (maxSteps := 2000000) (disch := omega) only [e121_1879, e121_1881, e121_1882, e121_1883, e121_1885, e121_1886, e121_1887, e121_1890, e121_1891, e121_1894, e121_1895, e121_1897, e121_1899, e121_1900, e121_1901, e121_1903, e121_1905, e121_1906, e121_1909, e121_1910, e121_1913, e121_1915, rd0, rd1, rd2, k1, k2, Option.bind_some, sz_lt0, sz_lt, sz_0lt, sz_mul, sz_add, sz_sub, sz_eq0, sz_eq, sz_nat, List.length_map, nb0, nb1, bz_eq0, ↓reduceIte, Int.reduceEq, Int.reduceLT, Int.reduceAdd, Int.reduceSub, Int.reduceMul, Int.reduceNeg]
      exact this
    · have hf := fq 1 1 (by rw [if_pos c1]) (by rw [if_pos c1, if_neg c2])
      have := fin 1 B hf (by omega) (by omega) rd1
      have k1 : (A < B) = True := eq_true c1
      have k2 : (B < D) = False := eq_false c2
      simp (maxSteps := 2000000) (disch := omega) only [e121_1879, e121_1881, e121_1882, e121_1883, e121_1885, e121_1886, e121_1887, e121_1890, e121_1891, e121_1894, e121_1895, e121_1897, e121_1899, e121_1900, e121_1901, e121_1903, e121_1905, e121_1906, e121_1909, e121_1910, e121_1913, e121_1915, rd0, rd1, rd2, k1, k2, Option.bind_some, sz_lt0, sz_lt, sz_0lt, sz_mul, sz_add, sz_sub, sz_eq0, sz_eq, sz_nat, List.length_map, nb0, nb1, bz_eq0, ↓reduceIte, Int.reduceEq, Int.reduceLT, Int.reduceAdd, Int.reduceSub, Int.reduceMul, Int.reduceNeg]
      exact this
  · by_cases c2 : A < D
    · have hf := fq 0 2 (by rw [if_neg c1]) (by rw [if_neg c1, if_pos c2])
      have := fin 2 D hf (by omega) (by omega) rd2
      have k1 : (A < B) = False := eq_false c1
      have k2 : (A < D) = True := eq_true c2
      simp (maxSteps := 2000000) (disch := omega) only [e121_1879, e121_1881, e121_1882, e121_1883, e121_1885, e121_1886, e121_1887, e121_1890, e121_1891, e121_1894, e121_1895, e121_1897, e121_1899, e121_1900, e121_1901, e121_1903, e121_1905, e121_1906, e121_1909, e121_1910, e121_1913, e121_1915, rd0, rd1, rd2, k1, k2, Option.bind_some, sz_lt0, sz_lt, sz_0lt, sz_mul, sz_add, sz_sub, sz_eq0, sz_eq, sz_nat, List.length_map, nb0, nb1, bz_eq0, ↓reduceIte, Int.reduceEq, Int.reduceLT, Int.reduceAdd, Int.reduceSub, Int.reduceMul, Int.reduceNeg]
      exact this
    · have hf := fq 0 0 (by rw [if_neg c1]) (by rw [if_neg c1, if_neg c2])
      have := fin 0 A hf (by omega) (by omega) rd0
      have k1 : (A < B) = False := eq_false c1
      have k2 : (A < D) = False := eq_false c2
      simp (maxSteps := 2000000) (disch := omega) only [e121_1879, e121_1881, e121_1882, e121_1883, e121_1885, e121_1886, e121_1887, e121_1890, e121_1891, e121_1894, e121_1895, e121_1897, e121_1899, e121_1900, e121_1901, e121_1903, e121_1905, e121_1906, e121_1909, e121_1910, e121_1913, e121_1915, rd0, rd1, rd2, k1, k2, Option.bind_some, sz_lt0, sz_lt, sz_0lt, sz_mul, sz_add, sz_sub, sz_eq0, sz_eq, sz_nat, List.length_map, nb0, nb1, bz_eq0, ↓reduceIte, Int.reduceEq, Int.reduceLT, Int.reduceAdd, Int.reduceSub, Int.reduceMul, Int.reduceNeg]
      exact this
theorem L_Or (hS : S.length ≤ 260) (hL : sx_L1 h ws wl c a C N) {r : Nat} (hr : r < C.nr) {l10 l11 l12 l13 l14 l15 l16 l17 l18 l19 l20 l21 l22 l23 l25 l26 l27 l28 l29 l30 l31 l32 : Option Value}
    (nx : ∀ (h' : sx_H) (l25 l26 l27 l28 l29 l30 l31 l32 : Option Value), sx_L1 h' ws wl c a C (N + 40) → sx_OK S 1351 [some (.ref 0), some (.ref 2), some (.ref 17), some (.ref 18), some (.ref 19), some (.int (sz C.st)), some (.int (sz C.nc)), some (.int (sz C.nr)), some (.int (sz 1)), some (.ref a), l10, l11, l12, l13, l14, l15, l16, l17, l18, l19, l20, l21, l22, l23, some (.int (sz ((r + 1 : Nat) : Int))), l25, l26, l27, l28, l29, l30, l31, l32] h') :
    sx_OK S 1351 [some (.ref 0), some (.ref 2), some (.ref 17), some (.ref 18), some (.ref 19), some (.int (sz C.st)), some (.int (sz C.nc)), some (.int (sz C.nr)), some (.int (sz 1)), some (.ref a), l10, l11, l12, l13, l14, l15, l16, l17, l18, l19, l20, l21, l22, l23, some (.int (sz r)), l25, l26, l27, l28, l29, l30, l31, l32] h := by
  have hC := L1_ok hL
  have hdim := hL.2.2.2.2.1
  have hnc := hC.1
  have hrb := nsum_bz_nn (fun y => C.beg r y false) C.nc 0
  have hrr : C.runs r = nsum (fun y => bz (C.beg r y false)) 0 C.nc := rfl
  obtain ⟨m27, m29, m30, m31, ei⟩ := L_Oi hS hL hr (l10 := l10) (l11 := l11) (l12 := l12) (l13 := l13) (l14 := l14) (l15 := l15) (l16 := l16) (l17 := l17) (l18 := l18) (l19 := l19) (l20 := l20) (l21 := l21) (l22 := l22) (l23 := l23) (l29 := l29) (l30 := l30) (l31 := l31) (l32 := l32) C.nc 0 0 0 0 0 (by omega) ⟨Nat.le_refl _, rfl, rfl, fun y h1 h2 => by omega, fun q => by omega, fun _ => Or.inl rfl⟩ rfl
  have w1 := w_runs (S := S) hL.1 (i := 0) ⟨by decide, rfl⟩ (r := r) (by omega)
  have w2 := w_rowWidth (S := S) hL.1 hL.2.1.2.2.2 (i := 0) ⟨by decide, rfl⟩ (r := r) (by omega)
  have w3 := w_runLength_no (S := S) hL.1 (i := 0) ⟨by decide, rfl⟩ (r := r) (k := C.runs r) false (by omega) (by omega) (C.frun_no r)
  rw [bz_f] at w3
  have hL1 := L1_exc hL
  have w4 := w_runWord_no (S := S) hL1.1 (i := 0) ⟨by decide, rfl⟩ (r := r) (k := 0) (u := 3) (by omega) (by omega)
  have hL2 := L1_exc hL1
  obtain ⟨v1, hv1, p1⟩ := m_in (S := S) (i := 100 + r) (n := 4) (by omega) (by omega) (by omega)
  obtain ⟨v2, hv2, p2⟩ := m_in (S := S) (i := 110 + r) (n := C.nc) (by omega) (by omega) (by omega)
  obtain ⟨at_, rfl⟩ : ∃ n : Nat, v2 = n := ⟨v2.toNat, by omega⟩
  have hnewa : a < sx_new (sx_push (sx_push h none 6) none 6) := (sx_get_lt hL2.2.2.1).2
  have gb : sx_gr (fun x => a < x) 1 3 (sx_push (sx_push h none 6) none 6) (sx_push (sx_push (sx_push h none 6) none 6) (some (.inl (List.replicate 3 0))) 3) := sx_gr.push _ _ _
  have xb : sx_get (sx_push (sx_push (sx_push h none 6) none 6) (some (.inl (List.replicate 3 0))) 3) (sx_new (sx_push (sx_push h none 6) none 6)) = some (.inl (List.replicate 3 0)) := sx_get_new
  have t3 : (sz 3).toNatClampNeg = 3 := by decide
  have z3 := sx_nwz (n := 3) (by omega)
  generalize hb0 : sx_new (sx_push (sx_push h none 6) none 6) = b at *
  have hL3 := L1_gr hL2 gb (fun x q => q)
  generalize hh3 : sx_push (sx_push (sx_push h none 6) none 6) (some (.inl (List.replicate 3 0))) 3 = h3 at *
  obtain ⟨h4, m32, eg, xg, gg⟩ := L_Og (S := S) (a := a) hC hdim hr (b := b) (by omega) (at_ := at_) (by_ := 1 + v1) (by omega) (by omega) C.nc 0 h3 (l10 := l10) (l11 := l11) (l12 := l12) (l13 := l13) (l14 := l14) (l15 := l15) (l16 := l16) (l17 := l17) (l18 := l18) (l19 := l19) (l20 := l20) (l21 := l21) (l22 := l22) (l23 := l23) (l25 := some (.int (sz (C.runs r)))) (l26 := some (.int (sz (C.wid ws r)))) (l27 := m27) (l32 := l32) (by omega) hL3.2.2.1 xb
  have hL4 := L1_gr hL3 gg (fun x (q : x = b) => by omega)
  have fin : ∀ l25 l26 l27 l31 l32, sx_OK S 1879 [some (.ref 0), some (.ref 2), some (.ref 17), some (.ref 18), some (.ref 19), some (.int (sz C.st)), some (.int (sz C.nc)), some (.int (sz C.nr)), some (.int (sz 1)), some (.ref a), l10, l11, l12, l13, l14, l15, l16, l17, l18, l19, l20, l21, l22, l23, some (.int (sz r)), l25, l26, l27, some (.int (sz (1 + v1))), some (.int (sz at_)), some (.ref b), l31, l32] h4 := fun l25 l26 l27 l31 l32 => L_Ob hL4 hr (by omega) (by omega) xg rfl rfl rfl fun h' l25 l26 l27 l28 l29 l30 l31 l32 hL' => nx h' _ _ _ _ _ _ _ _ (L1_mono hL' (by omega))
  unfold sx_OK at fin ⊢
  rw [h121_1351]
  simp (maxSteps := 2000000) (disch := omega) only [e121_1353, e121_1355, e121_1358, e121_1359, e121_1361, e121_1362, e121_1364, e121_1365, e121_1367, e121_1368, Option.bind_some, sz_lt0, sz_lt, sz_0lt, sz_mul, sz_add, sz_sub, sz_eq0, sz_eq, sz_nat, List.length_map, nb0, nb1, bz_eq0, ↓reduceIte, Int.reduceEq, Int.reduceLT, Int.reduceAdd, Int.reduceSub, Int.reduceMul, Int.reduceNeg]
  rw [if_pos (by omega)]
  refine (congrArg (fun o => ∃ h', o = some (Sum.inl (some (Value.int (sz 1))), h') ∧ h'.1.length ≤ 600104 ∧ h'.2 ≤ 600104) ei).mpr ?_
  dsimp only
  simp (maxSteps := 2000000) (disch := omega) only [e121_1706, e121_1708, e121_1709, e121_1710, e121_1712, e121_1715, e121_1717, e121_1720, e121_1721, e121_1722, e121_1724, e121_1727, e121_1729, e121_1732, e121_1733, e121_1734, e121_1736, e121_1738, e121_1739, e121_1742, e121_1744, e121_1747, e121_1748, e121_1749, e121_1751, e121_1752, e121_1753, e121_1756, e121_1758, e121_1761, e121_1762, e121_1765, e121_1766, e121_1767, e121_1769, e121_1770, e121_1771, e121_1773, e121_1775, e121_1776, e121_1777, e121_1780, e121_1781, e121_1783, e121_1784, e121_1786, e121_1788, e121_1789, e121_1791, e121_1794, e121_1796, e121_1797, e121_1799, e121_1801, e121_1802, w1, w2, w3, w4, p1, p2, hb0, t3, z3, or_false, hh3, sz_and11, eq_self, Option.bind_some, sz_lt0, sz_lt, sz_0lt, sz_mul, sz_add, sz_sub, sz_eq0, sz_eq, sz_nat, List.length_map, nb0, nb1, bz_eq0, ↓reduceIte, Int.reduceEq, Int.reduceLT, Int.reduceAdd, Int.reduceSub, Int.reduceMul, Int.reduceNeg]
  refine (congrArg (fun o => ∃ h', o = some (Sum.inl (some (Value.int (sz 1))), h') ∧ h'.1.length ≤ 600104 ∧ h'.2 ≤ 600104) eg).mpr ?_
  exact fin _ _ _ _ _
theorem L_O (hS : S.length ≤ 260) : ∀ (n r : Nat) (h : sx_H) (N : Nat) {l10 l11 l12 l13 l14 l15 l16 l17 l18 l19 l20 l21 l22 l23 l25 l26 l27 l28 l29 l30 l31 l32 : Option Value}, r + n = C.nr → sx_L1 h ws wl c a C N → N + 40 * n ≤ 500000 → sx_OK S 1351 [some (.ref 0), some (.ref 2), some (.ref 17), some (.ref 18), some (.ref 19), some (.int (sz C.st)), some (.int (sz C.nc)), some (.int (sz C.nr)), some (.int (sz 1)), some (.ref a), l10, l11, l12, l13, l14, l15, l16, l17, l18, l19, l20, l21, l22, l23, some (.int (sz r)), l25, l26, l27, l28, l29, l30, l31, l32] h := by
  intro n
  induction n with
  | zero =>
    intro r h N l10 l11 l12 l13 l14 l15 l16 l17 l18 l19 l20 l21 l22 l23 l25 l26 l27 l28 l29 l30 l31 l32 hr hL hN
    have hdim := hL.2.2.2.2.1
    unfold sx_OK
    rw [h121_1351]
    simp (maxSteps := 2000000) (disch := omega) only [e121_1353, e121_1355, Option.bind_some, sz_lt0, sz_lt, sz_0lt, sz_mul, sz_add, sz_sub, sz_eq0, sz_eq, sz_nat, List.length_map, nb0, nb1, bz_eq0, ↓reduceIte, Int.reduceEq, Int.reduceLT, Int.reduceAdd, Int.reduceSub, Int.reduceMul, Int.reduceNeg]
    rw [if_neg (by omega)]
    exact L_P hS hL (by omega)
  | succ n ih =>
    intro r h N l10 l11 l12 l13 l14 l15 l16 l17 l18 l19 l20 l21 l22 l23 l25 l26 l27 l28 l29 l30 l31 l32 hr hL hN
    exact L_Or hS hL (by omega) fun h' _ _ _ _ _ _ _ _ hL' => ih (r + 1) h' (N + 40) (by omega) hL' (by omega)
end SXO3
