/-! THE LAW: the motif -/
theorem sz_or1 (d : Bool) : sz (bz d) ||| sz 1 = sz (bz true) := by cases d <;> decide
theorem sz_or0 (d : Bool) : sz (bz d) ||| sz 0 = sz (bz d) := by cases d <;> decide
def Clo.ne (C : Clo) (w k : Nat) : Bool := decide (0 ≤ C.ks.getD (k / w * C.nc + k % w) 0)
theorem Clo.ne_emw {C : Clo} (hC : C.ok) {w v : Nat} (hw : 1 ≤ w ∧ w ≤ C.nc) (hv : 1 ≤ v ∧ v ≤ C.nr) : (!nall (C.ne w) 0 (w * v)) = C.emw w v := by
  unfold Clo.emw
  congr 1
  refine bool_ext ?_
  rw [nall_iff, nall_iff]
  constructor
  · intro h r _ hr
    rw [nall_iff]
    intro x _ hx
    have hlt : r * C.nc + x < C.ks.length := by rw [hC.2.2.1]; exact rx_lt (by omega) (by omega)
    have hrx : r * w + x < v * w := rx_lt (by omega) (by omega)
    have := of_decide_eq_true (h (r * w + x) (Nat.zero_le _) (by rw [Nat.mul_comm w v]; omega))
    obtain ⟨e1, e2⟩ := nat_rx (r := r) (x := x) (nc := w) (by omega)
    rw [e1, e2] at this
    refine decide_eq_true ?_
    rw [show (r : Int) * C.nc + x = ((r * C.nc + x : Nat) : Int) by rw [Int.natCast_add, Int.natCast_mul], kk_k hlt]
    omega
  · intro h k _ hk
    have hkv : k / w < v := Nat.div_lt_of_lt_mul (by omega)
    have hkm : k % w < w := Nat.mod_lt _ (by omega)
    have h1 := h (k / w) (Nat.zero_le _) (by omega)
    rw [nall_iff] at h1
    have h2 := of_decide_eq_true (h1 (k % w) (Nat.zero_le _) (by omega))
    have hlt : k / w * C.nc + k % w < C.ks.length := by rw [hC.2.2.1]; exact rx_lt (by omega) (by omega)
    rw [show ((k / w : Nat) : Int) * C.nc + ((k % w : Nat) : Int) = ((k / w * C.nc + k % w : Nat) : Int) by rw [Int.natCast_add, Int.natCast_mul], kk_k hlt] at h2
    have := kk_bd hC (k / w * C.nc + k % w)
    exact decide_eq_true (by omega)
section SXDD
variable {S : List Int32} {h : sx_H} {ws wl : List Int} {c a b N : Nat} {C : Clo}
theorem L_Dc (hC : C.ok) (hdim : C.nc ≤ 6 ∧ C.nr ≤ 5) (hab : a ≠ b) {w v : Nat} {s : Int} (hw : 1 ≤ w ∧ w ≤ C.nc) (hv : 1 ≤ v ∧ v ≤ C.nr) (hs : -12 ≤ s ∧ s ≤ 12) : ∀ (n k : Nat) (h : sx_H) (ys : List Int) (t : Int) {l13 l17 l18 l19 l20 l21 l22 l23 l24 l25 l26 l27 l28 l29 l30 l31 l32 : Option Value}, k + n = C.ks.length → sx_get h a = some (.inl (C.ks.map sz)) → sx_get h b = some (.inl (ys.map sz)) → ys.length = C.ks.length → (∀ j, j < k → ys.getD j 0 = C.mk w v s (j / C.nc) (j % C.nc)) → t = nsum (fun k => C.chg w v s (k / C.nc) (k % C.nc)) 0 k →
    ∃ (h' : sx_H) (l17' : Option Value), sx_Ev S 121 373 [some (.ref 0), some (.ref 2), some (.ref 17), some (.ref 18), some (.ref 19), some (.int (sz C.st)), some (.int (sz C.nc)), some (.int (sz C.nr)), some (.int (sz 1)), some (.ref a), some (.int (sz w)), some (.int (sz v)), some (.int (sz s)), l13, some (.int (sz t)), some (.ref b), some (.int (sz k)), l17, l18, l19, l20, l21, l22, l23, l24, l25, l26, l27, l28, l29, l30, l31, l32] [] h =
      sx_Ev S 121 467 [some (.ref 0), some (.ref 2), some (.ref 17), some (.ref 18), some (.ref 19), some (.int (sz C.st)), some (.int (sz C.nc)), some (.int (sz C.nr)), some (.int (sz 1)), some (.ref a), some (.int (sz w)), some (.int (sz v)), some (.int (sz s)), l13, some (.int (sz (C.motn w v s))), some (.ref b), some (.int (sz C.ks.length)), l17', l18, l19, l20, l21, l22, l23, l24, l25, l26, l27, l28, l29, l30, l31, l32] [] h' ∧ sx_get h' b = some (.inl ((C.mot w v s).ks.map sz)) ∧ sx_gr (· = b) 0 0 h h' := by
  have hlen : C.ks.length ≤ 30 := by rw [hC.2.2.1]; exact Nat.le_trans (Nat.mul_le_mul hdim.2 hdim.1) (by decide)
  intro n
  induction n with
  | zero =>
    intro k h ys t l13 l17 l18 l19 l20 l21 l22 l23 l24 l25 l26 l27 l28 l29 l30 l31 l32 hk ha hb hl hy ht
    have hke : k = C.ks.length := by omega
    subst hke
    have i0 := sx_ints_of (S := S) ha
    have e1 : t = C.motn w v s := by
      rw [ht]
      exact C.flat hC _ (fun r x => C.chg w v s r x) (fun r x _ hx => by rw [(nat_rx hx).1, (nat_rx hx).2])
    have e2 : ys = (C.mot w v s).ks := by
      show ys = (List.range C.ks.length).map (fun i => C.mk w v s (i / C.nc) (i % C.nc))
      refine List.ext_getElem (by rw [List.length_map, List.length_range]; exact hl) fun j h1 h2 => ?_
      have := hy j (by omega)
      rw [List.getElem_map, List.getElem_range, ← this, List.getD_eq_getElem?_getD, List.getElem?_eq_getElem h1]
      rfl
    refine ⟨h, l17, ?_, by rw [hb, e2], sx_gr.refl h⟩
    rw [← e1, h121_373]
    simp (maxSteps := 2000000) (disch := omega) only [e121_375, e121_377, e121_378, e121_381, e121_383, e121_385, e121_386, e121_388, e121_390, e121_392, e121_393, e121_395, e121_396, e121_397, e121_398, e121_400, e121_401, e121_403, e121_405, e121_407, e121_409, e121_411, e121_413, e121_414, e121_416, e121_417, e121_419, e121_420, e121_422, e121_425, e121_427, e121_429, e121_430, e121_433, e121_435, e121_436, e121_437, e121_438, e121_440, e121_442, e121_444, e121_445, e121_447, e121_449, e121_450, e121_453, e121_454, e121_457, e121_458, e121_459, e121_461, e121_464, i0, Option.bind_some, sz_lt0, sz_lt, sz_0lt, sz_mul, sz_add, sz_sub, sz_eq0, sz_eq, sz_nat, List.length_map, nb0, nb1, bz_eq0, ↓reduceIte, Int.reduceEq, Int.reduceLT, Int.reduceAdd, Int.reduceSub, Int.reduceMul, Int.reduceNeg]
    rw [if_neg (by omega)]
  | succ n ih =>
    intro k h ys t l13 l17 l18 l19 l20 l21 l22 l23 l24 l25 l26 l27 l28 l29 l30 l31 l32 hk ha hb hl hy ht
    have hkl : k < C.ks.length := by omega
    have i0 := sx_ints_of (S := S) ha
    have hn := hC.1
    have hk1 : (k : Int) + 1 = ((k + 1 : Nat) : Int) := by omega
    have hkm : k % C.nc < C.nc := Nat.mod_lt _ (by omega)
    have hkd : k / C.nc < C.nr := Nat.div_lt_of_lt_mul (by rw [Nat.mul_comm, ← hC.2.2.1]; omega)
    have hq : k / C.nc / v ≤ k / C.nc := Nat.div_le_self _ _
    have hrm : k / C.nc % v < v := Nat.mod_lt _ (by omega)
    have d1 := nat_tdiv k C.nc
    have d2 := nat_tmod k C.nc
    have d3 := nat_tdiv (k / C.nc) v
    have d4 := nat_tmod (k / C.nc) v
    have hz : ((C.nc : Int) = 0) = False := eq_false (by omega)
    have hzw : ((w : Int) = 0) = False := eq_false (by omega)
    have hzv : ((v : Int) = 0) = False := eq_false (by omega)
    have rd := sx_rd_of (S := S) (x := (k : Int)) ha (by omega) (by omega)
    rw [show (k : Int).toNat = k by omega] at rd
    have hfb := fmz_bd (x := ((k % C.nc : Nat) : Int) - s * ((k / C.nc / v : Nat) : Int)) (w := w) (by omega)
    have hrb := rem_bd (a := ((k % C.nc : Nat) : Int) - s * ((k / C.nc / v : Nat) : Int)) (b := w) (by omega)
    have hsb : -200 ≤ s * ((k / C.nc / v : Nat) : Int) ∧ s * ((k / C.nc / v : Nat) : Int) ≤ 200 := by
      have hq2 : k / C.nc / v ≤ 5 := by omega
      generalize k / C.nc / v = y at hq2 ⊢
      have e1 : s * (y : Int) ≤ 12 * (y : Int) := Int.mul_le_mul_of_nonneg_right hs.2 (Int.natCast_nonneg _)
      have e2 : -12 * (y : Int) ≤ s * (y : Int) := Int.mul_le_mul_of_nonneg_right hs.1 (Int.natCast_nonneg _)
      omega
    obtain ⟨f, hf⟩ : ∃ f : Nat, fmz (((k % C.nc : Nat) : Int) - s * ((k / C.nc / v : Nat) : Int)) w = f := ⟨(fmz (((k % C.nc : Nat) : Int) - s * ((k / C.nc / v : Nat) : Int)) w).toNat, by omega⟩
    have hfl : f < w := by omega
    have hil : k / C.nc % v * C.nc + f < C.ks.length := by rw [hC.2.2.1]; exact rx_lt (by omega) (by omega)
    have rd2 := sx_rd_of (S := S) (x := ((k / C.nc % v * C.nc + f : Nat) : Int)) ha (by omega) (by omega)
    rw [show (((k / C.nc % v * C.nc + f : Nat) : Int)).toNat = k / C.nc % v * C.nc + f by omega] at rd2
    have hidx : ((k / C.nc % v : Nat) : Int) * C.nc + (f : Int) = ((k / C.nc % v * C.nc + f : Nat) : Int) := by rw [Int.natCast_add, Int.natCast_mul]
    have hmk : C.mk w v s (k / C.nc) (k % C.nc) = C.ks.getD (k / C.nc % v * C.nc + f) 0 := by
      unfold Clo.mk
      rw [d3, d4, hf, hidx, kk_k hil]
    have hb2 := kk_bd hC (k / C.nc % v * C.nc + f)
    have hb1 := kk_bd hC k
    obtain ⟨h1, p1, q1, g1⟩ := sx_wi (x := (k : Int)) (v := C.ks.getD (k / C.nc % v * C.nc + f) 0) hb (by omega) (by omega)
    rw [show (k : Int).toNat = k by omega] at q1
    have ha1 := g1.1.2.2 a _ hab ha
    have rda := sx_rd_of (S := S) (x := (k : Int)) ha1 (by omega) (by omega)
    have rdb := sx_rd_of (S := S) (x := (k : Int)) q1 (by rw [List.length_set]; omega) (by rw [List.length_set]; omega)
    rw [show (k : Int).toNat = k by omega] at rda rdb
    rw [sx_getD_set _ _ _ _ (by omega), if_pos rfl] at rdb
    have hchg : C.chg w v s (k / C.nc) (k % C.nc) = if C.ks.getD (k / C.nc % v * C.nc + f) 0 = C.ks.getD k 0 then 0 else 1 := by
      unfold Clo.chg
      rw [hmk, show ((k / C.nc : Nat) : Int) * C.nc + ((k % C.nc : Nat) : Int) = k by omega, kk_k hkl]
      by_cases z : C.ks.getD k 0 = C.ks.getD (k / C.nc % v * C.nc + f) 0
      · rw [if_pos z, if_pos z.symm]
      · rw [if_neg z, if_neg (Ne.symm z)]
    have nx := fun l17 => @ih (k + 1) h1 (ys.set k (C.ks.getD (k / C.nc % v * C.nc + f) 0)) (t + C.chg w v s (k / C.nc) (k % C.nc)) l13 l17 l18 l19 l20 l21 l22 l23 l24 l25 l26 l27 l28 l29 l30 l31 l32 (by omega) ha1 q1 (by rw [List.length_set]; exact hl) (fun j hj => by
      rw [sx_getD_set _ _ _ _ (by omega)]
      by_cases z : k = j
      · rw [if_pos z, ← z, hmk]
      · rw [if_neg z]; exact hy j (by omega)) (by rw [nsum_r', Nat.zero_add, ht])
    have klt : ((k : Int) < C.ks.length) = True := eq_true (by omega)
    obtain ⟨Y, hY⟩ : ∃ Y, ((k % C.nc : Nat) : Int) - s * ((k / C.nc / v : Nat) : Int) = Y := ⟨_, rfl⟩
    have hYb : -1000 ≤ Y ∧ Y ≤ 1000 := by omega
    rw [hY] at hf hfb hrb
    generalize hE1 : k / C.nc = kd at *
    generalize hE2 : k % C.nc = km at *
    generalize hE3 : kd / v = qv at *
    generalize hE4 : kd % v = rv at *
    obtain ⟨h', l17', e1, e2, e3⟩ := nx (some (.int (sz (Y - Y.tdiv w * w))))
    refine ⟨h', l17', ?_, e2, g1.trans e3⟩
    rw [← e1, hchg, h121_373]
    unfold fmz at hf
    by_cases c1 : Y - Y.tdiv w * w < 0
    · rw [if_pos c1] at hf
      have kc : (Y - Y.tdiv w * w < 0) = True := eq_true c1
      simp (maxSteps := 2000000) (disch := omega) only [e121_375, e121_377, e121_378, e121_381, e121_383, e121_385, e121_386, e121_388, e121_390, e121_392, e121_393, e121_395, e121_396, e121_397, e121_398, e121_400, e121_401, e121_403, e121_405, e121_407, e121_409, e121_411, e121_413, e121_414, e121_416, e121_417, e121_419, e121_420, e121_422, e121_425, e121_427, e121_429, e121_430, e121_433, e121_435, e121_436, e121_437, e121_438, e121_440, e121_442, e121_444, e121_445, e121_447, e121_449, e121_450, e121_453, e121_454, e121_457, e121_458, e121_459, e121_461, e121_464, i0, klt, sz_tdiv, d1, d2, d3, d4, hz, hzw, hzv, hY, kc, hf, hidx, rd2, p1, rda, rdb, hk1, Option.bind_some, sz_lt0, sz_lt, sz_0lt, sz_mul, sz_add, sz_sub, sz_eq0, sz_eq, sz_nat, List.length_map, nb0, nb1, bz_eq0, ↓reduceIte, Int.reduceEq, Int.reduceLT, Int.reduceAdd, Int.reduceSub, Int.reduceMul, Int.reduceNeg]
      by_cases z : C.ks.getD (rv * C.nc + f) 0 = C.ks.getD k 0
      · rw [if_pos z, if_pos z]
      · rw [if_neg z, if_neg z]
    · rw [if_neg c1] at hf
      have kc : ((f : Int) < 0) = False := eq_false (by omega)
      simp (maxSteps := 2000000) (disch := omega) only [e121_375, e121_377, e121_378, e121_381, e121_383, e121_385, e121_386, e121_388, e121_390, e121_392, e121_393, e121_395, e121_396, e121_397, e121_398, e121_400, e121_401, e121_403, e121_405, e121_407, e121_409, e121_411, e121_413, e121_414, e121_416, e121_417, e121_419, e121_420, e121_422, e121_425, e121_427, e121_429, e121_430, e121_433, e121_435, e121_436, e121_437, e121_438, e121_440, e121_442, e121_444, e121_445, e121_447, e121_449, e121_450, e121_453, e121_454, e121_457, e121_458, e121_459, e121_461, e121_464, i0, klt, sz_tdiv, d1, d2, d3, d4, hz, hzw, hzv, hY, kc, hf, hidx, rd2, p1, rda, rdb, hk1, Option.bind_some, sz_lt0, sz_lt, sz_0lt, sz_mul, sz_add, sz_sub, sz_eq0, sz_eq, sz_nat, List.length_map, nb0, nb1, bz_eq0, ↓reduceIte, Int.reduceEq, Int.reduceLT, Int.reduceAdd, Int.reduceSub, Int.reduceMul, Int.reduceNeg]
      by_cases z : C.ks.getD (rv * C.nc + f) 0 = C.ks.getD k 0
      · rw [if_pos z, if_pos z]
      · rw [if_neg z, if_neg z]
theorem L_D (hS : S.length ≤ 260) (hL : sx_L1 h ws wl c a C N) (hN : N ≤ 80000) (hru : C.ru = 0) {w v : Nat} {s : Int} (hw : 1 ≤ w ∧ w ≤ C.nc) (hv : 1 ≤ v ∧ v ≤ C.nr) (hs : -12 ≤ s ∧ s ≤ 12) {l14 l15 l16 l17 l18 l19 l20 l21 l22 l23 l24 l25 l26 l27 l28 l29 l30 l31 l32 : Option Value} :
    sx_OK S 345 [some (.ref 0), some (.ref 2), some (.ref 17), some (.ref 18), some (.ref 19), some (.int (sz C.st)), some (.int (sz C.nc)), some (.int (sz C.nr)), some (.int (sz 1)), some (.ref a), some (.int (sz w)), some (.int (sz v)), some (.int (sz s)), some (.int (sz (bz (C.emw w v)))), l14, l15, l16, l17, l18, l19, l20, l21, l22, l23, l24, l25, l26, l27, l28, l29, l30, l31, l32] h := by
  have hC := L1_ok hL
  have hlen := L1_len hL
  have hdim := hL.2.2.2.2.1
  have hadd := hL.2.2.2.1
  have i0 := sx_ints_of (S := S) hL.2.2.1
  obtain ⟨u, hu, p1⟩ := m_in (S := S) (i := 6) (n := 2) (by omega) (by omega) (by omega)
  by_cases hem : C.emw w v = true
  · have w1 := w_motif_em (S := S) hL.1 (i := 0) ⟨by decide, rfl⟩ hw hv hs hem
    have hL1 := L1_exc hL
    have nx := L_E (l10 := some (.int (sz w))) (l11 := some (.int (sz v))) (l12 := some (.int (sz s))) (l13 := some (.int (sz 1))) (l14 := some (.int (sz 0))) (l15 := l15) (l16 := l16) (l17 := l17) (l18 := l18) (l19 := l19) (l20 := l20) (l21 := l21) (l22 := l22) (l23 := l23) (l24 := l24) (l25 := l25) (l26 := l26) (l27 := l27) (l28 := l28) (l29 := l29) (l30 := l30) (l31 := l31) (l32 := l32) hS hL1 (by omega) hru
    rw [hem, bz_t]
    unfold sx_OK at nx ⊢
    rcases (show u = 0 ∨ u = 1 by omega) with q | q <;> subst q
    · simp (maxSteps := 2000000) (disch := omega) only [e121_345, e121_346, e121_348, e121_349, e121_351, e121_352, e121_355, e121_358, e121_360, e121_363, e121_365, e121_366, e121_368, e121_370, e121_371, e121_500, e121_502, e121_504, e121_507, e121_508, e121_509, e121_511, e121_513, e121_515, e121_518, e121_520, e121_523, e121_524, e121_527, e121_528, e121_529, p1, w1, eq_self, sz_and11, Option.bind_some, sz_lt0, sz_lt, sz_0lt, sz_mul, sz_add, sz_sub, sz_eq0, sz_eq, sz_nat, List.length_map, nb0, nb1, bz_eq0, ↓reduceIte, Int.reduceEq, Int.reduceLT, Int.reduceAdd, Int.reduceSub, Int.reduceMul, Int.reduceNeg]
      exact nx
    · simp (maxSteps := 2000000) (disch := omega) only [e121_345, e121_346, e121_348, e121_349, e121_351, e121_352, e121_355, e121_358, e121_360, e121_363, e121_365, e121_366, e121_368, e121_370, e121_371, e121_500, e121_502, e121_504, e121_507, e121_508, e121_509, e121_511, e121_513, e121_515, e121_518, e121_520, e121_523, e121_524, e121_527, e121_528, e121_529, p1, w1, eq_self, sz_and11, Option.bind_some, sz_lt0, sz_lt, sz_0lt, sz_mul, sz_add, sz_sub, sz_eq0, sz_eq, sz_nat, List.length_map, nb0, nb1, bz_eq0, ↓reduceIte, Int.reduceEq, Int.reduceLT, Int.reduceAdd, Int.reduceSub, Int.reduceMul, Int.reduceNeg]
      exact nx
  · have hem2 : C.emw w v = false := by simpa using hem
    rw [hem2, bz_f]
    rcases (show u = 0 ∨ u = 1 by omega) with q | q <;> subst q
    · have hnew : a < sx_new h := (sx_get_lt hL.2.2.1).2
      have gb : sx_gr (fun x => a < x) 1 C.ks.length h (sx_push h (some (.inl (List.replicate C.ks.length 0))) C.ks.length) := sx_gr.push _ _ _
      have xb : sx_get (sx_push h (some (.inl (List.replicate C.ks.length 0))) C.ks.length) (sx_new h) = some (.inl (List.replicate C.ks.length 0)) := sx_get_new
      have tl : (sz (C.ks.length : Int)).toNatClampNeg = C.ks.length := by rw [sz_clamp (by omega)]; omega
      have zl := sx_nwz (n := C.ks.length) (by omega)
      have zi := sx_nwi C.ks.length
      generalize hb0 : sx_new h = b at *
      generalize hh1 : sx_push h (some (.inl (List.replicate C.ks.length 0))) C.ks.length = h1 at *
      have hL1 := L1_gr hL gb (fun x q => q)
      rw [sx_repl] at xb
      obtain ⟨h2, m17, e1, e2, e3⟩ := L_Dc (S := S) (a := a) (b := b) hC hdim (by omega) hw hv hs C.ks.length 0 h1 (List.replicate C.ks.length 0) 0 (l13 := some (.int (sz 0))) (l17 := l17) (l18 := l18) (l19 := l19) (l20 := l20) (l21 := l21) (l22 := l22) (l23 := l23) (l24 := l24) (l25 := l25) (l26 := l26) (l27 := l27) (l28 := l28) (l29 := l29) (l30 := l30) (l31 := l31) (l32 := l32) (by omega) hL1.2.2.1 xb List.length_replicate (fun j hj => by omega) rfl
      have hL2 := L1_gr hL1 e3 (fun x (q : x = b) => by omega)
      obtain ⟨h3, p3, B3, g3⟩ := w_motif (S := S) hL2.1 (i := 0) ⟨by decide, rfl⟩ hw hv hs hem2
      have B3 : sx_BV h3 4 9999 ws [(c, C.mot w v s)] := B3
      have hL3 := L1_upd hL2 B3 g3 (fun x q => by omega) e2 (by omega) hdim
      have nx := L_E (l10 := some (.int (sz w))) (l11 := some (.int (sz v))) (l12 := some (.int (sz s))) (l13 := some (.int (sz 0))) (l14 := some (.int (sz (C.motn w v s)))) (l15 := some (.ref b)) (l16 := some (.int (sz C.ks.length))) (l17 := m17) (l18 := l18) (l19 := l19) (l20 := l20) (l21 := l21) (l22 := l22) (l23 := l23) (l24 := l24) (l25 := l25) (l26 := l26) (l27 := l27) (l28 := l28) (l29 := l29) (l30 := l30) (l31 := l31) (l32 := l32) hS hL3 (by omega) hru
      unfold sx_OK at nx ⊢
      simp (maxSteps := 2000000) (disch := omega) only [e121_345, e121_346, e121_348, e121_349, e121_351, e121_352, e121_355, e121_358, e121_360, e121_363, e121_365, e121_366, e121_368, e121_370, e121_371, p1, i0, tl, zl, zi, or_false, hb0, hh1, Option.bind_some, sz_lt0, sz_lt, sz_0lt, sz_mul, sz_add, sz_sub, sz_eq0, sz_eq, sz_nat, List.length_map, nb0, nb1, bz_eq0, ↓reduceIte, Int.reduceEq, Int.reduceLT, Int.reduceAdd, Int.reduceSub, Int.reduceMul, Int.reduceNeg]
      refine (congrArg (fun o => ∃ h', o = some (Sum.inl (some (Value.int (sz 1))), h') ∧ h'.1.length ≤ 600104 ∧ h'.2 ≤ 600104) e1).mpr ?_
      dsimp only
      simp (maxSteps := 2000000) (disch := omega) only [e121_467, e121_469, e121_471, e121_473, e121_474, e121_475, e121_477, e121_479, e121_481, e121_484, e121_486, e121_489, e121_490, e121_493, e121_494, e121_495, e121_497, p3, eq_self, sz_and11, Option.bind_some, sz_lt0, sz_lt, sz_0lt, sz_mul, sz_add, sz_sub, sz_eq0, sz_eq, sz_nat, List.length_map, nb0, nb1, bz_eq0, ↓reduceIte, Int.reduceEq, Int.reduceLT, Int.reduceAdd, Int.reduceSub, Int.reduceMul, Int.reduceNeg]
      exact nx
    · have nx := L_E (l10 := some (.int (sz w))) (l11 := some (.int (sz v))) (l12 := some (.int (sz s))) (l13 := some (.int (sz 0))) (l14 := some (.int (sz 0))) (l15 := l15) (l16 := l16) (l17 := l17) (l18 := l18) (l19 := l19) (l20 := l20) (l21 := l21) (l22 := l22) (l23 := l23) (l24 := l24) (l25 := l25) (l26 := l26) (l27 := l27) (l28 := l28) (l29 := l29) (l30 := l30) (l31 := l31) (l32 := l32) hS hL (by omega) hru
      unfold sx_OK at nx ⊢
      simp (maxSteps := 2000000) (disch := omega) only [e121_345, e121_346, e121_348, e121_349, e121_351, e121_352, e121_355, e121_358, e121_360, e121_363, e121_365, e121_366, e121_368, e121_370, e121_371, e121_500, e121_502, e121_504, e121_507, e121_508, e121_509, e121_511, e121_513, e121_515, e121_518, e121_520, e121_523, e121_524, e121_527, e121_528, e121_529, p1, sz_and11, Option.bind_some, sz_lt0, sz_lt, sz_0lt, sz_mul, sz_add, sz_sub, sz_eq0, sz_eq, sz_nat, List.length_map, nb0, nb1, bz_eq0, ↓reduceIte, Int.reduceEq, Int.reduceLT, Int.reduceAdd, Int.reduceSub, Int.reduceMul, Int.reduceNeg]
      exact nx
theorem L_C (hS : S.length ≤ 260) (hL : sx_L1 h ws wl c a C N) (hN : N ≤ 80000) (hru : C.ru = 0) {w v : Nat} {s : Int} (hw : 1 ≤ w ∧ w ≤ C.nc) (hv : 1 ≤ v ∧ v ≤ C.nr) (hs : -12 ≤ s ∧ s ≤ 12) : ∀ (n k : Nat) {l15 l16 l17 l18 l19 l20 l21 l22 l23 l24 l25 l26 l27 l28 l29 l30 l31 l32 : Option Value}, k + n = w * v →
    sx_OK S 299 [some (.ref 0), some (.ref 2), some (.ref 17), some (.ref 18), some (.ref 19), some (.int (sz C.st)), some (.int (sz C.nc)), some (.int (sz C.nr)), some (.int (sz 1)), some (.ref a), some (.int (sz w)), some (.int (sz v)), some (.int (sz s)), some (.int (sz (bz (!nall (C.ne w) 0 k)))), some (.int (sz k)), l15, l16, l17, l18, l19, l20, l21, l22, l23, l24, l25, l26, l27, l28, l29, l30, l31, l32] h := by
  have hC := L1_ok hL
  have hlen := L1_len hL
  have hdim := hL.2.2.2.2.1
  have hwv : w * v ≤ 30 := Nat.le_trans (Nat.mul_le_mul (Nat.le_trans hw.2 hdim.1) (Nat.le_trans hv.2 hdim.2)) (by decide)
  have hwc : (w : Int) * v = ((w * v : Nat) : Int) := (Int.natCast_mul _ _).symm
  intro n
  induction n with
  | zero =>
    intro k l15 l16 l17 l18 l19 l20 l21 l22 l23 l24 l25 l26 l27 l28 l29 l30 l31 l32 hk
    have hke : k = w * v := by omega
    subst hke
    have nx := L_D (l14 := some (.int (sz ((w * v : Nat) : Int)))) (l15 := l15) (l16 := l16) (l17 := l17) (l18 := l18) (l19 := l19) (l20 := l20) (l21 := l21) (l22 := l22) (l23 := l23) (l24 := l24) (l25 := l25) (l26 := l26) (l27 := l27) (l28 := l28) (l29 := l29) (l30 := l30) (l31 := l31) (l32 := l32) hS hL hN hru hw hv hs
    rw [C.ne_emw hC hw hv]
    unfold sx_OK at nx ⊢
    rw [h121_299]
    simp (maxSteps := 2000000) (disch := omega) only [e121_301, e121_303, e121_305, e121_306, e121_309, e121_311, e121_313, e121_315, e121_317, e121_318, e121_320, e121_321, e121_323, e121_325, e121_326, e121_327, e121_328, e121_331, e121_332, e121_335, e121_336, e121_337, e121_339, e121_342, hwc, Option.bind_some, sz_lt0, sz_lt, sz_0lt, sz_mul, sz_add, sz_sub, sz_eq0, sz_eq, sz_nat, List.length_map, nb0, nb1, bz_eq0, ↓reduceIte, Int.reduceEq, Int.reduceLT, Int.reduceAdd, Int.reduceSub, Int.reduceMul, Int.reduceNeg]
    rw [if_neg (by omega)]
    exact nx
  | succ n ih =>
    intro k l15 l16 l17 l18 l19 l20 l21 l22 l23 l24 l25 l26 l27 l28 l29 l30 l31 l32 hk
    have hk1 : (k : Int) + 1 = ((k + 1 : Nat) : Int) := by omega
    have hkv : k / w < v := Nat.div_lt_of_lt_mul (by omega)
    have hkm : k % w < w := Nat.mod_lt _ (by omega)
    have hlt : k / w * C.nc + k % w < C.ks.length := by rw [hC.2.2.1]; exact rx_lt (by omega) (by omega)
    have rd := L1_rd (S := S) hL hlt
    have hidx : ((k / w : Nat) : Int) * C.nc + ((k % w : Nat) : Int) = ((k / w * C.nc + k % w : Nat) : Int) := by rw [Int.natCast_add, Int.natCast_mul]
    have d1 := nat_tdiv k w
    have d2 := nat_tmod k w
    have hzw : ((w : Int) = 0) = False := eq_false (by omega)
    have klt : ((k : Int) < ((w * v : Nat) : Int)) = True := eq_true (by omega)
    have hkb := kk_bd hC (k / w * C.nc + k % w)
    have nx := @ih (k + 1) l15 l16 l17 l18 l19 l20 l21 l22 l23 l24 l25 l26 l27 l28 l29 l30 l31 l32 (by omega)
    rw [nall_r, Nat.zero_add, Bool.not_and] at nx
    have hne : C.ne w k = decide (0 ≤ C.ks.getD (k / w * C.nc + k % w) 0) := rfl
    rw [hne] at nx
    unfold sx_OK at nx ⊢
    rw [h121_299]
    simp (maxSteps := 2000000) (disch := omega) only [e121_301, e121_303, e121_305, e121_306, e121_309, e121_311, e121_313, e121_315, e121_317, e121_318, e121_320, e121_321, e121_323, e121_325, e121_326, e121_327, e121_328, e121_331, e121_332, e121_335, e121_336, e121_337, e121_339, e121_342, hwc, klt, sz_tdiv, d1, d2, hzw, hidx, rd, hk1, sz_or1, sz_or0, Option.bind_some, sz_lt0, sz_lt, sz_0lt, sz_mul, sz_add, sz_sub, sz_eq0, sz_eq, sz_nat, List.length_map, nb0, nb1, bz_eq0, ↓reduceIte, Int.reduceEq, Int.reduceLT, Int.reduceAdd, Int.reduceSub, Int.reduceMul, Int.reduceNeg]
    by_cases q : C.ks.getD (k / w * C.nc + k % w) 0 < 0
    · rw [if_pos q]
      rw [decide_eq_false (by omega), Bool.not_false, Bool.or_true] at nx
      exact nx
    · rw [if_neg q]
      rw [decide_eq_true (by omega), Bool.not_true, Bool.or_false] at nx
      exact nx
end SXDD
