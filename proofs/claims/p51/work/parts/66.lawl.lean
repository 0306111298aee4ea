/-! THE LAW: the loops of repeat and mirror; what stands in the cloth is read -/
section SXL
variable {S : List Int32} {h : sx_H} {ws wl : List Int} {c a N : Nat} {C : Clo}
theorem L_M (hS : S.length ≤ 260) (hL : sx_L1 h ws wl c a C N) (hN : N ≤ 499000) (hf : C.ful = true) : ∀ (n : Nat) (t : Int) (m : Bool) {l10 l11 l12 l13 l14 l15 l16 l17 l18 l19 l20 l25 l26 l27 l28 l29 l30 l31 l32 : Option Value}, n < C.nc → t = nfnd C.rep C.nc (n + 1) (C.nc - 1 - n) → (n < C.nc - 1 → m = C.mir) → (n = C.nc - 1 → m = true) → -1000 ≤ t ∧ t ≤ 1000 →
    sx_OK S 1155 [some (.ref 0), some (.ref 2), some (.ref 17), some (.ref 18), some (.ref 19), some (.int (sz C.st)), some (.int (sz C.nc)), some (.int (sz C.nr)), some (.int (sz 1)), some (.ref a), l10, l11, l12, l13, l14, l15, l16, l17, l18, l19, l20, some (.int (sz 1)), some (.int (sz t)), some (.int (sz (bz m))), some (.int (sz n)), l25, l26, l27, l28, l29, l30, l31, l32] h := by
  have hC := L1_ok hL
  have hdim := hL.2.2.2.2.1
  have hn := hC.1
  intro n
  induction n with
  | zero =>
    intro t m l10 l11 l12 l13 l14 l15 l16 l17 l18 l19 l20 l25 l26 l27 l28 l29 l30 l31 l32 hnc ht hm1 hm2 hb
    have nx := L_N (l24 := some (.int (sz ((0 : Nat) : Int)))) (l10 := l10) (l11 := l11) (l12 := l12) (l13 := l13) (l14 := l14) (l15 := l15) (l16 := l16) (l17 := l17) (l18 := l18) (l19 := l19) (l20 := l20) (l25 := l25) (l26 := l26) (l27 := l27) (l28 := l28) (l29 := l29) (l30 := l30) (l31 := l31) (l32 := l32) hS hL hN (t22 := t) (t23 := bz m) (fun _ => ht) (fun _ => by rw [hm1 (by omega)]) hb (bz_bd m)
    rw [hf, bz_t] at nx
    unfold sx_OK at nx ⊢
    rw [h121_1155]
    simp (maxSteps := 2000000) (disch := omega) only [e121_1157, e121_1158, e121_1161, e121_1163, Option.bind_some, sz_lt0, sz_lt, sz_0lt, sz_mul, sz_add, sz_sub, sz_eq0, sz_eq, sz_nat, List.length_map, nb0, nb1, bz_eq0, ↓reduceIte, Int.reduceEq, Int.reduceLT, Int.reduceAdd, Int.reduceSub, Int.reduceMul, Int.reduceNeg]
    exact nx
  | succ n ih =>
    intro t m l10 l11 l12 l13 l14 l15 l16 l17 l18 l19 l20 l25 l26 l27 l28 l29 l30 l31 l32 hnc ht hm1 hm2 hb
    have hn1 : ((n + 1 : Nat) : Int) + -1 = (n : Int) := by omega
    have hrep := C.dos_rep hC (b := n + 1) (by omega)
    have hmir := C.mrk_mir hC
    have k1 : (((n + 1 : Nat) : Int) < 1) = False := eq_false (by omega)
    have ei := L_Mi (S := S) hL hf (b := n + 1) (by omega) (l10 := l10) (l11 := l11) (l12 := l12) (l13 := l13) (l14 := l14) (l15 := l15) (l16 := l16) (l17 := l17) (l18 := l18) (l19 := l19) (l20 := l20) (l21 := some (.int (sz 1))) (l22 := some (.int (sz t))) (l27 := l27) (l28 := l28) (l29 := l29) (l30 := l30) (l31 := l31) (l32 := l32) C.ks.length 0 true m (by omega)
    rw [hrep, hmir, Bool.true_and, bz_t] at ei
    have hmm : (m && C.mir) = C.mir := by
      by_cases q : n + 1 = C.nc - 1
      · rw [hm2 q, Bool.true_and]
      · rw [hm1 (by omega), Bool.and_self]
    rw [hmm] at ei
    have ht2 : nfnd C.rep C.nc (n + 1) (C.nc - 1 - n) = if C.rep (n + 1) = true then ((n + 1 : Nat) : Int) else t := by
      rw [show C.nc - 1 - n = (C.nc - 1 - (n + 1)) + 1 by omega, nfnd, ← ht]
    have nx := fun l25 l26 => @ih (if C.rep (n + 1) = true then ((n + 1 : Nat) : Int) else t) C.mir l10 l11 l12 l13 l14 l15 l16 l17 l18 l19 l20 l25 l26 l27 l28 l29 l30 l31 l32 (by omega) ht2.symm (fun _ => rfl) (fun q => by omega) (by split <;> omega)
    unfold sx_OK at nx ⊢
    rw [h121_1155]
    simp (maxSteps := 2000000) (disch := omega) only [e121_1157, e121_1158, e121_1161, e121_1163, e121_1166, e121_1167, e121_1169, e121_1170, k1, Option.bind_some, sz_lt0, sz_lt, sz_0lt, sz_mul, sz_add, sz_sub, sz_eq0, sz_eq, sz_nat, List.length_map, nb0, nb1, bz_eq0, ↓reduceIte, Int.reduceEq, Int.reduceLT, Int.reduceAdd, Int.reduceSub, Int.reduceMul, Int.reduceNeg]
    refine (congrArg (fun o => ∃ h', o = some (Sum.inl (some (Value.int (sz 1))), h') ∧ h'.1.length ≤ 600104 ∧ h'.2 ≤ 600104) ei).mpr ?_
    dsimp only
    simp (maxSteps := 2000000) (disch := omega) only [e121_1270, e121_1272, e121_1275, e121_1277, e121_1280, e121_1282, e121_1284, e121_1287, hn1, Option.bind_some, sz_lt0, sz_lt, sz_0lt, sz_mul, sz_add, sz_sub, sz_eq0, sz_eq, sz_nat, List.length_map, nb0, nb1, bz_eq0, ↓reduceIte, Int.reduceEq, Int.reduceLT, Int.reduceAdd, Int.reduceSub, Int.reduceMul, Int.reduceNeg]
    cases hr : C.rep (n + 1)
    · rw [hr, if_neg (by simp)] at nx
      rw [if_pos rfl]
      exact nx _ _
    · rw [hr, if_pos rfl] at nx
      rw [if_neg (by simp)]
      exact nx _ _
theorem L_L (hS : S.length ≤ 260) (hL : sx_L1 h ws wl c a C N) (hN : N ≤ 499000) : ∀ (n k : Nat) {l10 l11 l12 l13 l14 l15 l16 l17 l18 l19 l20 l23 l24 l25 l26 l27 l28 l29 l30 l31 l32 : Option Value}, k + n = C.ks.length →
    sx_OK S 1077 [some (.ref 0), some (.ref 2), some (.ref 17), some (.ref 18), some (.ref 19), some (.int (sz C.st)), some (.int (sz C.nc)), some (.int (sz C.nr)), some (.int (sz 1)), some (.ref a), l10, l11, l12, l13, l14, l15, l16, l17, l18, l19, l20, some (.int (sz (bz (nall (fun j => decide (0 ≤ C.ks.getD j 0)) 0 k)))), some (.int (sz k)), l23, l24, l25, l26, l27, l28, l29, l30, l31, l32] h := by
  have hC := L1_ok hL
  have hlen := L1_len hL
  have hdim := hL.2.2.2.2.1
  have hn := hC.1
  have i0 := sx_ints_of (S := S) hL.2.2.1
  intro n
  induction n with
  | zero =>
    intro k l10 l11 l12 l13 l14 l15 l16 l17 l18 l19 l20 l23 l24 l25 l26 l27 l28 l29 l30 l31 l32 hk
    have hke : k = C.ks.length := by omega
    subst hke
    have hfl : nall (fun j => decide (0 ≤ C.ks.getD j 0)) 0 C.ks.length = C.ful := rfl
    rw [hfl]
    have hn1 : (C.nc : Int) - 1 = ((C.nc - 1 : Nat) : Int) := by omega
    by_cases hf : C.ful = true
    · have nx := L_M hS hL hN hf (l10 := l10) (l11 := l11) (l12 := l12) (l13 := l13) (l14 := l14) (l15 := l15) (l16 := l16) (l17 := l17) (l18 := l18) (l19 := l19) (l20 := l20) (l25 := l25) (l26 := l26) (l27 := l27) (l28 := l28) (l29 := l29) (l30 := l30) (l31 := l31) (l32 := l32) (C.nc - 1) (C.nc : Int) true (by omega) (by rw [Nat.sub_self]; rfl) (fun q => by omega) (fun _ => rfl) (by omega)
      rw [bz_t] at nx
      rw [hf, bz_t]
      unfold sx_OK at nx ⊢
      rw [h121_1077]
      simp (maxSteps := 2000000) (disch := omega) only [e121_1079, e121_1081, e121_1082, e121_1085, e121_1087, e121_1088, e121_1089, e121_1091, e121_1093, e121_1094, e121_1096, e121_1098, e121_1099, e121_1102, e121_1104, e121_1106, e121_1107, e121_1110, e121_1111, e121_1114, e121_1115, e121_1116, e121_1118, e121_1120, e121_1122, e121_1124, e121_1125, e121_1128, e121_1129, e121_1132, e121_1133, e121_1134, e121_1136, e121_1139, e121_1142, e121_1144, e121_1146, e121_1147, e121_1149, e121_1151, e121_1152, e121_1153, i0, hn1, Option.bind_some, sz_lt0, sz_lt, sz_0lt, sz_mul, sz_add, sz_sub, sz_eq0, sz_eq, sz_nat, List.length_map, nb0, nb1, bz_eq0, ↓reduceIte, Int.reduceEq, Int.reduceLT, Int.reduceAdd, Int.reduceSub, Int.reduceMul, Int.reduceNeg]
      rw [if_neg (by omega)]
      exact nx
    · have nx := L_N (l24 := some (.int (sz ((C.nc - 1 : Nat) : Int)))) (l10 := l10) (l11 := l11) (l12 := l12) (l13 := l13) (l14 := l14) (l15 := l15) (l16 := l16) (l17 := l17) (l18 := l18) (l19 := l19) (l20 := l20) (l25 := l25) (l26 := l26) (l27 := l27) (l28 := l28) (l29 := l29) (l30 := l30) (l31 := l31) (l32 := l32) hS hL hN (t22 := C.nc) (t23 := 1) (fun q => absurd q hf) (fun q => absurd q hf) (by omega) (by omega)
      have hf2 : C.ful = false := by simpa using hf
      have k1 : (((C.nc - 1 : Nat) : Int) < 1) = False := eq_false (by omega)
      rw [hf2, bz_f] at nx ⊢
      unfold sx_OK at nx ⊢
      rw [h121_1077]
      simp (maxSteps := 2000000) (disch := omega) only [e121_1079, e121_1081, e121_1082, e121_1085, e121_1087, e121_1088, e121_1089, e121_1091, e121_1093, e121_1094, e121_1096, e121_1098, e121_1099, e121_1102, e121_1104, e121_1106, e121_1107, e121_1110, e121_1111, e121_1114, e121_1115, e121_1116, e121_1118, e121_1120, e121_1122, e121_1124, e121_1125, e121_1128, e121_1129, e121_1132, e121_1133, e121_1134, e121_1136, e121_1139, e121_1142, e121_1144, e121_1146, e121_1147, e121_1149, e121_1151, e121_1152, e121_1153, i0, hn1, Option.bind_some, sz_lt0, sz_lt, sz_0lt, sz_mul, sz_add, sz_sub, sz_eq0, sz_eq, sz_nat, List.length_map, nb0, nb1, bz_eq0, ↓reduceIte, Int.reduceEq, Int.reduceLT, Int.reduceAdd, Int.reduceSub, Int.reduceMul, Int.reduceNeg]
      rw [if_neg (by omega), h121_1155]
      simp (maxSteps := 2000000) (disch := omega) only [e121_1157, e121_1158, e121_1161, e121_1163, k1, Option.bind_some, sz_lt0, sz_lt, sz_0lt, sz_mul, sz_add, sz_sub, sz_eq0, sz_eq, sz_nat, List.length_map, nb0, nb1, bz_eq0, ↓reduceIte, Int.reduceEq, Int.reduceLT, Int.reduceAdd, Int.reduceSub, Int.reduceMul, Int.reduceNeg]
      exact nx
  | succ n ih =>
    intro k l10 l11 l12 l13 l14 l15 l16 l17 l18 l19 l20 l23 l24 l25 l26 l27 l28 l29 l30 l31 l32 hk
    have hkl : k < C.ks.length := by omega
    have hk1 : (k : Int) + 1 = ((k + 1 : Nat) : Int) := by omega
    have hkm : k % C.nc < C.nc := Nat.mod_lt _ (by omega)
    have hkd : k / C.nc < C.nr := Nat.div_lt_of_lt_mul (by rw [Nat.mul_comm, ← hC.2.2.1]; omega)
    have hkd0 : (0 : Int) ≤ ((k / C.nc : Nat) : Int) := Int.natCast_nonneg _
    have d1 := nat_tdiv k C.nc
    have d2 := nat_tmod k C.nc
    have hidx : ((k / C.nc : Nat) : Int) * C.nc + ((k % C.nc : Nat) : Int) = k := by omega
    have hz : ((C.nc : Int) = 0) = False := eq_false (by omega)
    have rd := L1_rd (S := S) hL hkl
    have w := w_kindAt (S := S) hL.1 (i := 0) ⟨by decide, rfl⟩ (r := ((k / C.nc : Nat) : Int)) (x := ((k % C.nc : Nat) : Int)) (by omega) (by omega)
    rw [hidx, kk_k hkl] at w
    have hkb := kk_bd hC k
    have klt : ((k : Int) < C.ks.length) = True := eq_true (by omega)
    have nx := @ih (k + 1) l10 l11 l12 l13 l14 l15 l16 l17 l18 l19 l20 l23 l24 l25 l26 l27 l28 l29 l30 l31 l32 (by omega)
    rw [nall_r, Nat.zero_add] at nx
    unfold sx_OK at nx ⊢
    rw [h121_1077]
    simp (maxSteps := 2000000) (disch := omega) only [e121_1079, e121_1081, e121_1082, e121_1085, e121_1087, e121_1088, e121_1089, e121_1091, e121_1093, e121_1094, e121_1096, e121_1098, e121_1099, e121_1102, e121_1104, e121_1106, e121_1107, e121_1110, e121_1111, e121_1114, e121_1115, e121_1116, e121_1118, e121_1120, e121_1122, e121_1124, e121_1125, e121_1128, e121_1129, e121_1132, e121_1133, e121_1134, e121_1136, e121_1139, i0, klt, sz_tdiv, d1, d2, hz, w, rd, eq_self, sz_and11, sz_bz1, sz_bz0, hk1, Option.bind_some, sz_lt0, sz_lt, sz_0lt, sz_mul, sz_add, sz_sub, sz_eq0, sz_eq, sz_nat, List.length_map, nb0, nb1, bz_eq0, ↓reduceIte, Int.reduceEq, Int.reduceLT, Int.reduceAdd, Int.reduceSub, Int.reduceMul, Int.reduceNeg]
    by_cases q : C.ks.getD k 0 < 0
    · rw [if_pos q]
      rw [decide_eq_false (by omega), Bool.and_false] at nx
      exact nx
    · rw [if_neg q]
      rw [decide_eq_true (by omega), Bool.and_true] at nx
      exact nx
/-- behind the fill: what stands is read once more -/
theorem L_L0 (hS : S.length ≤ 260) (hL : sx_L1 h ws wl c a C N) (hN : N ≤ 499000) {l10 l11 l12 l13 l14 l15 l16 l17 l18 l19 l20 l21 l22 l23 l24 l25 l26 l27 l28 l29 l30 l31 l32 : Option Value} : sx_OK S 1071 [some (.ref 0), some (.ref 2), some (.ref 17), some (.ref 18), some (.ref 19), some (.int (sz C.st)), some (.int (sz C.nc)), some (.int (sz C.nr)), some (.int (sz 1)), some (.ref a), l10, l11, l12, l13, l14, l15, l16, l17, l18, l19, l20, l21, l22, l23, l24, l25, l26, l27, l28, l29, l30, l31, l32] h := by
  have nx := L_L hS hL hN (l10 := l10) (l11 := l11) (l12 := l12) (l13 := l13) (l14 := l14) (l15 := l15) (l16 := l16) (l17 := l17) (l18 := l18) (l19 := l19) (l20 := l20) (l23 := l23) (l24 := l24) (l25 := l25) (l26 := l26) (l27 := l27) (l28 := l28) (l29 := l29) (l30 := l30) (l31 := l31) (l32 := l32) C.ks.length 0 (by omega)
  unfold sx_OK at nx ⊢
  simp (maxSteps := 2000000) (disch := omega) only [e121_1071, e121_1072, e121_1074, e121_1075, Option.bind_some, sz_lt0, sz_lt, sz_0lt, sz_mul, sz_add, sz_sub, sz_eq0, sz_eq, sz_nat, List.length_map, nb0, nb1, bz_eq0, ↓reduceIte, Int.reduceEq, Int.reduceLT, Int.reduceAdd, Int.reduceSub, Int.reduceMul, Int.reduceNeg]
  exact nx
end SXL
