/-! THE LAW: rules are set and counted -/
section SXEE
variable {S : List Int32} {h : sx_H} {ws wl : List Int} {c a b f N ch : Nat} {C : Clo} {W : Int}
theorem L_Ha (hch : 1 ≤ ch ∧ ch ≤ 4) {E : Nat} (hE : E ≤ 6) : ∀ (n k : Nat) {l10 l11 l12 l13 l14 l15 l18 l21 l22 l23 l24 l25 l26 l27 l28 l29 l30 l31 l32 : Option Value}, k + n = E →
    sx_Ev S 121 765 [some (.ref 0), some (.ref 2), some (.ref 17), some (.ref 18), some (.ref 19), some (.int (sz C.st)), some (.int (sz C.nc)), some (.int (sz C.nr)), some (.int (sz 1)), some (.ref a), l10, l11, l12, l13, l14, l15, some (.int (sz (E : Int))), some (.int (sz ch)), l18, some (.int (sz ((ch ^ k : Nat) : Int))), some (.int (sz k)), l21, l22, l23, l24, l25, l26, l27, l28, l29, l30, l31, l32] [] h =
    sx_Ev S 121 792 [some (.ref 0), some (.ref 2), some (.ref 17), some (.ref 18), some (.ref 19), some (.int (sz C.st)), some (.int (sz C.nc)), some (.int (sz C.nr)), some (.int (sz 1)), some (.ref a), l10, l11, l12, l13, l14, l15, some (.int (sz (E : Int))), some (.int (sz ch)), l18, some (.int (sz ((ch ^ E : Nat) : Int))), some (.int (sz (E : Int))), l21, l22, l23, l24, l25, l26, l27, l28, l29, l30, l31, l32] [] h := by
  intro n
  induction n with
  | zero =>
    intro k l10 l11 l12 l13 l14 l15 l18 l21 l22 l23 l24 l25 l26 l27 l28 l29 l30 l31 l32 hk
    have : k = E := by omega
    subst this
    rw [h121_765]
    simp (maxSteps := 2000000) (disch := omega) only [e121_767, e121_769, e121_772, e121_774, e121_776, e121_779, e121_781, e121_783, e121_784, e121_786, e121_789, Option.bind_some, sz_lt0, sz_lt, sz_0lt, sz_mul, sz_add, sz_sub, sz_eq0, sz_eq, sz_nat, List.length_map, nb0, nb1, bz_eq0, ↓reduceIte, Int.reduceEq, Int.reduceLT, Int.reduceAdd, Int.reduceSub, Int.reduceMul, Int.reduceNeg]
    rw [if_neg (by omega)]
  | succ n ih =>
    intro k l10 l11 l12 l13 l14 l15 l18 l21 l22 l23 l24 l25 l26 l27 l28 l29 l30 l31 l32 hk
    have hk1 : (k : Int) + 1 = ((k + 1 : Nat) : Int) := by omega
    have hp : ((ch ^ k : Nat) : Int) * (ch : Int) = ((ch ^ (k + 1) : Nat) : Int) := by rw [Nat.pow_succ, Int.natCast_mul]
    rw [← ih (k + 1) (by omega), h121_765]
    have k1 : ((k : Int) < E) = True := eq_true (by omega)
    have k2 : ((6 : Int) < E) = False := eq_false (by omega)
    simp (maxSteps := 2000000) (disch := omega) only [e121_767, e121_769, e121_772, e121_774, e121_776, e121_779, e121_781, e121_783, e121_784, e121_786, e121_789, k1, k2, hp, hk1, Option.bind_some, sz_lt0, sz_lt, sz_0lt, sz_mul, sz_add, sz_sub, sz_eq0, sz_eq, sz_nat, List.length_map, nb0, nb1, bz_eq0, ↓reduceIte, Int.reduceEq, Int.reduceLT, Int.reduceAdd, Int.reduceSub, Int.reduceMul, Int.reduceNeg]
theorem L_H (hS : S.length ≤ 260) (hL : sx_L1 h ws wl c a C N) (hN : N ≤ 100000) {l10 l11 l12 l13 l14 l17 l18 l19 l20 l21 l22 l23 l24 l25 l26 l27 l28 l29 l30 l31 l32 : Option Value} :
    sx_OK S 745 [some (.ref 0), some (.ref 2), some (.ref 17), some (.ref 18), some (.ref 19), some (.int (sz C.st)), some (.int (sz C.nc)), some (.int (sz C.nr)), some (.int (sz 1)), some (.ref a), l10, l11, l12, l13, l14, some (.int (sz C.ru)), some (.int (sz (C.many (-1)))), l17, l18, l19, l20, l21, l22, l23, l24, l25, l26, l27, l28, l29, l30, l31, l32] h := by
  have hC := L1_ok hL
  have hlen := L1_len hL
  have hdim := hL.2.2.2.2.1
  have hadd := hL.2.2.2.1
  have hmb := Clo.many_bd hC (-1)
  obtain ⟨v, hv, p1⟩ := m_in (S := S) (i := 8) (n := 3) (by omega) (by omega) (by omega)
  obtain ⟨ch, hch0⟩ : ∃ ch : Nat, 1 + v = ch := ⟨(1 + v).toNat, by omega⟩
  have hch : 1 ≤ ch ∧ ch ≤ 3 := by omega
  have hem := C.ems_many
  have i0 := sx_ints_of (S := S) hL.2.2.1
  have hnew : a < sx_new h := (sx_get_lt hL.2.2.1).2
  have gb : sx_gr (fun x => a < x) 1 C.ks.length h (sx_push h (some (.inl (List.replicate C.ks.length 0))) C.ks.length) := sx_gr.push _ _ _
  have tl : (sz (C.ks.length : Int)).toNatClampNeg = C.ks.length := by rw [sz_clamp (by omega)]; omega
  have zl := sx_nwz (n := C.ks.length) (by omega)
  have zi := sx_nwi C.ks.length
  have hL1 := L1_gr hL gb (fun x q => q)
  obtain ⟨f, hf0⟩ : ∃ f, sx_new h = f := ⟨_, rfl⟩
  generalize hh1 : sx_push h (some (.inl (List.replicate C.ks.length 0))) C.ks.length = h1 at *
  by_cases hm : C.many (-1) ≤ 6
  · have hE : C.ems.length ≤ 6 := by omega
    have hpw : ch ^ C.ems.length ≤ 4096 := by
      have h1 : ch ^ C.ems.length ≤ 4 ^ C.ems.length := Nat.pow_le_pow_left (by omega) _
      have h2 : 4 ^ C.ems.length ≤ 4 ^ 6 := Nat.pow_le_pow_right (by decide) hE
      exact Nat.le_trans h1 (Nat.le_trans h2 (by decide))
    have hpw3 : ch ^ C.ems.length ≤ 729 := by
      have h1 : ch ^ C.ems.length ≤ 3 ^ C.ems.length := Nat.pow_le_pow_left (by omega) _
      have h2 : 3 ^ C.ems.length ≤ 3 ^ 6 := Nat.pow_le_pow_right (by decide) hE
      exact Nat.le_trans h1 (Nat.le_trans h2 (by decide))
    have ea := L_Ha (S := S) (h := h) (a := a) (C := C) (ch := ch) (by omega) hE C.ems.length 0 (l10 := l10) (l11 := l11) (l12 := l12) (l13 := l13) (l14 := l14) (l15 := some (.int (sz C.ru))) (l18 := some (.int (sz 0))) (l21 := l21) (l22 := l22) (l23 := l23) (l24 := l24) (l25 := l25) (l26 := l26) (l27 := l27) (l28 := l28) (l29 := l29) (l30 := l30) (l31 := l31) (l32 := l32) (by omega)
    have nx := L_I (l10 := l10) (l11 := l11) (l12 := l12) (l13 := l13) (l14 := l14) (l22 := l22) (l23 := l23) (l24 := l24) (l25 := l25) (l26 := l26) (l27 := l27) (l28 := l28) (l29 := l29) (l30 := l30) (l31 := l31) (l32 := l32) hS (ch := ch) (by omega) (P := ch ^ C.ems.length) ⟨Nat.le_refl _, hpw⟩ (fun _ => rfl) (ch ^ C.ems.length) 0 h1 _ f 0 (by omega) hL1 (by omega) (by omega) rfl (Or.inl ⟨rfl, fun c hc => by omega⟩)
    rw [hem] at ea
    unfold sx_OK at nx ⊢
    simp (maxSteps := 2000000) (disch := omega) only [e121_745, e121_746, e121_747, e121_749, e121_750, e121_753, e121_754, e121_756, e121_757, e121_759, e121_760, e121_762, e121_763, p1, hch0, Option.bind_some, sz_lt0, sz_lt, sz_0lt, sz_mul, sz_add, sz_sub, sz_eq0, sz_eq, sz_nat, List.length_map, nb0, nb1, bz_eq0, ↓reduceIte, Int.reduceEq, Int.reduceLT, Int.reduceAdd, Int.reduceSub, Int.reduceMul, Int.reduceNeg]
    refine (congrArg (fun o => ∃ h', o = some (Sum.inl (some (Value.int (sz 1))), h') ∧ h'.1.length ≤ 600104 ∧ h'.2 ≤ 600104) ea).mpr ?_
    dsimp only
    simp (maxSteps := 2000000) (disch := omega) only [e121_792, e121_794, e121_795, e121_797, e121_799, e121_800, i0, tl, zl, zi, or_false, hf0, hh1, Option.bind_some, sz_lt0, sz_lt, sz_0lt, sz_mul, sz_add, sz_sub, sz_eq0, sz_eq, sz_nat, List.length_map, nb0, nb1, bz_eq0, ↓reduceIte, Int.reduceEq, Int.reduceLT, Int.reduceAdd, Int.reduceSub, Int.reduceMul, Int.reduceNeg]
    exact nx
  · have h1p : 1 ≤ ch ^ C.ems.length := Nat.pow_pos (by omega)
    have nx := L_I (l10 := l10) (l11 := l11) (l12 := l12) (l13 := l13) (l14 := l14) (l22 := l22) (l23 := l23) (l24 := l24) (l25 := l25) (l26 := l26) (l27 := l27) (l28 := l28) (l29 := l29) (l30 := l30) (l31 := l31) (l32 := l32) hS (ch := ch) (by omega) (P := 1) ⟨h1p, by decide⟩ (fun z => absurd z hm) 1 0 h1 _ f 0 (by omega) hL1 (by omega) (by omega) rfl (Or.inl ⟨rfl, fun c hc => by omega⟩)
    have k1 : (0 < C.many (-1)) = True := eq_true (by omega)
    have k2 : (6 < C.many (-1)) = True := eq_true (by omega)
    unfold sx_OK at nx ⊢
    simp (maxSteps := 2000000) (disch := omega) only [e121_745, e121_746, e121_747, e121_749, e121_750, e121_753, e121_754, e121_756, e121_757, e121_759, e121_760, e121_762, e121_763, p1, hch0, Option.bind_some, sz_lt0, sz_lt, sz_0lt, sz_mul, sz_add, sz_sub, sz_eq0, sz_eq, sz_nat, List.length_map, nb0, nb1, bz_eq0, ↓reduceIte, Int.reduceEq, Int.reduceLT, Int.reduceAdd, Int.reduceSub, Int.reduceMul, Int.reduceNeg]
    rw [h121_765]
    simp (maxSteps := 2000000) (disch := omega) only [e121_767, e121_769, e121_772, e121_774, e121_776, e121_779, e121_781, e121_783, e121_784, e121_786, e121_789, k1, k2, Option.bind_some, sz_lt0, sz_lt, sz_0lt, sz_mul, sz_add, sz_sub, sz_eq0, sz_eq, sz_nat, List.length_map, nb0, nb1, bz_eq0, ↓reduceIte, Int.reduceEq, Int.reduceLT, Int.reduceAdd, Int.reduceSub, Int.reduceMul, Int.reduceNeg]
    simp (maxSteps := 2000000) (disch := omega) only [e121_792, e121_794, e121_795, e121_797, e121_799, e121_800, i0, tl, zl, zi, or_false, hf0, hh1, Option.bind_some, sz_lt0, sz_lt, sz_0lt, sz_mul, sz_add, sz_sub, sz_eq0, sz_eq, sz_nat, List.length_map, nb0, nb1, bz_eq0, ↓reduceIte, Int.reduceEq, Int.reduceLT, Int.reduceAdd, Int.reduceSub, Int.reduceMul, Int.reduceNeg]
    exact nx
theorem L_Gs (hL : sx_L1 h ws wl c a C N) {u : Int} (hu : u = 1 ∨ u = 2 ∨ u = 4 ∨ u = 8) {l10 l11 l12 l13 l14 l15 l16 l18 l19 l20 l21 l22 l23 l24 l25 l26 l27 l28 l29 l30 l31 l32 : Option Value} :
    sx_Ev S 121 698 [some (.ref 0), some (.ref 2), some (.ref 17), some (.ref 18), some (.ref 19), some (.int (sz C.st)), some (.int (sz C.nc)), some (.int (sz C.nr)), some (.int (sz 1)), some (.ref a), l10, l11, l12, l13, l14, l15, l16, some (.int (sz u)), l18, l19, l20, l21, l22, l23, l24, l25, l26, l27, l28, l29, l30, l31, l32] [] h = sx_Ev S 121 698 [some (.ref 0), some (.ref 2), some (.ref 17), some (.ref 18), some (.ref 19), some (.int (sz C.st)), some (.int (sz C.nc)), some (.int (sz C.nr)), some (.int (sz 1)), some (.ref a), l10, l11, l12, l13, l14, l15, l16, some (.int (sz (u * 2))), l18, l19, l20, l21, l22, l23, l24, l25, l26, l27, l28, l29, l30, l31, l32] [] h := by
  have hC := L1_ok hL
  have w1 := w_broken (S := S) hL.1 (i := 0) ⟨by decide, rfl⟩ hu
  have w2 := m_lbr (S := S) hC hL.2.2.1 hu
  rw [Clo.lbr_br hC hu] at w2
  have hb := C.br_bd hC u
  have hu8 : (8 < u) = False := eq_false (by omega)
  conv => lhs; rw [h121_698]
  simp (maxSteps := 2000000) (disch := omega) only [e121_700, e121_702, e121_705, e121_707, e121_708, e121_709, e121_711, e121_714, e121_716, e121_718, e121_720, e121_722, e121_725, e121_728, e121_729, e121_732, e121_733, e121_734, e121_736, e121_738, e121_739, e121_740, e121_742, hu8, w1, w2, eq_self, sz_and11, Option.bind_some, sz_lt0, sz_lt, sz_0lt, sz_mul, sz_add, sz_sub, sz_eq0, sz_eq, sz_nat, List.length_map, nb0, nb1, bz_eq0, ↓reduceIte, Int.reduceEq, Int.reduceLT, Int.reduceAdd, Int.reduceSub, Int.reduceMul, Int.reduceNeg]
theorem L_G (hS : S.length ≤ 260) (hL : sx_L1 h ws wl c a C N) (hN : N ≤ 100000) {l10 l11 l12 l13 l14 l18 l19 l20 l21 l22 l23 l24 l25 l26 l27 l28 l29 l30 l31 l32 : Option Value} :
    sx_OK S 698 [some (.ref 0), some (.ref 2), some (.ref 17), some (.ref 18), some (.ref 19), some (.int (sz C.st)), some (.int (sz C.nc)), some (.int (sz C.nr)), some (.int (sz 1)), some (.ref a), l10, l11, l12, l13, l14, some (.int (sz C.ru)), some (.int (sz (C.many (-1)))), some (.int (sz 1)), l18, l19, l20, l21, l22, l23, l24, l25, l26, l27, l28, l29, l30, l31, l32] h := by
  have r := fun (u : Int) (hu : u = 1 ∨ u = 2 ∨ u = 4 ∨ u = 8) => L_Gs (S := S) hL hu (l10 := l10) (l11 := l11) (l12 := l12) (l13 := l13) (l14 := l14) (l15 := some (.int (sz C.ru))) (l16 := some (.int (sz (C.many (-1))))) (l18 := l18) (l19 := l19) (l20 := l20) (l21 := l21) (l22 := l22) (l23 := l23) (l24 := l24) (l25 := l25) (l26 := l26) (l27 := l27) (l28 := l28) (l29 := l29) (l30 := l30) (l31 := l31) (l32 := l32)
  have rall := (r 1 (by omega)).trans ((r 2 (by omega)).trans ((r 4 (by omega)).trans (r 8 (by omega))))
  have nx := L_H (l10 := l10) (l11 := l11) (l12 := l12) (l13 := l13) (l14 := l14) (l17 := some (.int (sz (8 * 2)))) (l18 := l18) (l19 := l19) (l20 := l20) (l21 := l21) (l22 := l22) (l23 := l23) (l24 := l24) (l25 := l25) (l26 := l26) (l27 := l27) (l28 := l28) (l29 := l29) (l30 := l30) (l31 := l31) (l32 := l32) hS hL hN
  unfold sx_OK at nx ⊢
  refine (congrArg (fun o => ∃ h', o = some (Sum.inl (some (Value.int (sz 1))), h') ∧ h'.1.length ≤ 600104 ∧ h'.2 ≤ 600104) rall).mpr ?_
  dsimp only
  rw [h121_698]
  simp (maxSteps := 2000000) (disch := omega) only [e121_700, e121_702, Option.bind_some, sz_lt0, sz_lt, sz_0lt, sz_mul, sz_add, sz_sub, sz_eq0, sz_eq, sz_nat, List.length_map, nb0, nb1, bz_eq0, ↓reduceIte, Int.reduceEq, Int.reduceLT, Int.reduceAdd, Int.reduceSub, Int.reduceMul, Int.reduceNeg]
  exact nx
theorem L_F (hS : S.length ≤ 260) (hL : sx_L1 h ws wl c a C N) (hN : N ≤ 100000) : ∀ (n k : Nat) {l10 l11 l12 l13 l14 l18 l19 l20 l21 l22 l23 l24 l25 l26 l27 l28 l29 l30 l31 l32 : Option Value}, k + n = C.ks.length →
    sx_OK S 630 [some (.ref 0), some (.ref 2), some (.ref 17), some (.ref 18), some (.ref 19), some (.int (sz C.st)), some (.int (sz C.nc)), some (.int (sz C.nr)), some (.int (sz 1)), some (.ref a), l10, l11, l12, l13, l14, some (.int (sz C.ru)), some (.int (sz (nsum (fun j => if C.k j = -1 then 1 else 0) 0 k))), some (.int (sz k)), l18, l19, l20, l21, l22, l23, l24, l25, l26, l27, l28, l29, l30, l31, l32] h := by
  have hC := L1_ok hL
  have hlen := L1_len hL
  have hdim := hL.2.2.2.2.1
  have hn := hC.1
  have i0 := sx_ints_of (S := S) hL.2.2.1
  intro n
  induction n with
  | zero =>
    intro k l10 l11 l12 l13 l14 l18 l19 l20 l21 l22 l23 l24 l25 l26 l27 l28 l29 l30 l31 l32 hk
    have hke : k = C.ks.length := by omega
    subst hke
    have nx := L_G (l10 := l10) (l11 := l11) (l12 := l12) (l13 := l13) (l14 := l14) (l18 := l18) (l19 := l19) (l20 := l20) (l21 := l21) (l22 := l22) (l23 := l23) (l24 := l24) (l25 := l25) (l26 := l26) (l27 := l27) (l28 := l28) (l29 := l29) (l30 := l30) (l31 := l31) (l32 := l32) hS hL hN
    have e : C.many (-1) = nsum (fun j => if C.k j = -1 then 1 else 0) 0 C.ks.length := rfl
    rw [e] at nx
    unfold sx_OK at nx ⊢
    rw [h121_630]
    simp (maxSteps := 2000000) (disch := omega) only [e121_632, e121_634, e121_635, e121_638, e121_640, e121_641, e121_642, e121_644, e121_646, e121_647, e121_649, e121_651, e121_652, e121_655, e121_657, e121_659, e121_660, e121_663, e121_664, e121_667, e121_668, e121_669, e121_671, e121_673, e121_675, e121_677, e121_678, e121_681, e121_682, e121_685, e121_686, e121_687, e121_689, e121_692, e121_695, e121_696, i0, Option.bind_some, sz_lt0, sz_lt, sz_0lt, sz_mul, sz_add, sz_sub, sz_eq0, sz_eq, sz_nat, List.length_map, nb0, nb1, bz_eq0, ↓reduceIte, Int.reduceEq, Int.reduceLT, Int.reduceAdd, Int.reduceSub, Int.reduceMul, Int.reduceNeg]
    rw [if_neg (by omega)]
    exact nx
  | succ n ih =>
    intro k l10 l11 l12 l13 l14 l18 l19 l20 l21 l22 l23 l24 l25 l26 l27 l28 l29 l30 l31 l32 hk
    have hkl : k < C.ks.length := by omega
    have hk1 : (k : Int) + 1 = ((k + 1 : Nat) : Int) := by omega
    have hkm : k % C.nc < C.nc := Nat.mod_lt _ (by omega)
    have hkd : k / C.nc < C.nr := Nat.div_lt_of_lt_mul (by rw [Nat.mul_comm, ← hC.2.2.1]; omega)
    have hkd0 : (0 : Int) ≤ ((k / C.nc : Nat) : Int) := Int.natCast_nonneg _
    have d1 := nat_tdiv k C.nc
    have d2 := nat_tmod k C.nc
    have hidx : ((k / C.nc : Nat) : Int) * C.nc + ((k % C.nc : Nat) : Int) = k := by omega
    have hz : ((C.nc : Int) = 0) = False := eq_false (by omega)
    have rd := L1_rd (S := S) hL hkl
    have w := w_kindAt (S := S) hL.1 (i := 0) ⟨by decide, rfl⟩ (r := ((k / C.nc : Nat) : Int)) (x := ((k % C.nc : Nat) : Int)) (by omega) (by omega)
    rw [hidx, kk_k hkl] at w
    have hkb := kk_bd hC k
    have klt : ((k : Int) < C.ks.length) = True := eq_true (by omega)
    have nx := @ih (k + 1) l10 l11 l12 l13 l14 l18 l19 l20 l21 l22 l23 l24 l25 l26 l27 l28 l29 l30 l31 l32 (by omega)
    rw [nsum_r', Nat.zero_add, kk_k hkl] at nx
    unfold sx_OK at nx ⊢
    rw [h121_630]
    simp (maxSteps := 2000000) (disch := omega) only [e121_632, e121_634, e121_635, e121_638, e121_640, e121_641, e121_642, e121_644, e121_646, e121_647, e121_649, e121_651, e121_652, e121_655, e121_657, e121_659, e121_660, e121_663, e121_664, e121_667, e121_668, e121_669, e121_671, e121_673, e121_675, e121_677, e121_678, e121_681, e121_682, e121_685, e121_686, e121_687, e121_689, e121_692, i0, klt, sz_tdiv, d1, d2, hz, w, rd, eq_self, sz_and11, hk1, Option.bind_some, sz_lt0, sz_lt, sz_0lt, sz_mul, sz_add, sz_sub, sz_eq0, sz_eq, sz_nat, List.length_map, nb0, nb1, bz_eq0, ↓reduceIte, Int.reduceEq, Int.reduceLT, Int.reduceAdd, Int.reduceSub, Int.reduceMul, Int.reduceNeg]
    by_cases q : C.ks.getD k 0 < 0
    · rw [if_pos q]
      rw [if_pos (by omega)] at nx
      exact nx
    · rw [if_neg q]
      rw [if_neg (by omega)] at nx
      exact nx
theorem L_E (hS : S.length ≤ 260) (hL : sx_L1 h ws wl c a C N) (hN : N ≤ 90000) (hru : C.ru = 0) {l10 l11 l12 l13 l14 l15 l16 l17 l18 l19 l20 l21 l22 l23 l24 l25 l26 l27 l28 l29 l30 l31 l32 : Option Value} : sx_OK S 531 [some (.ref 0), some (.ref 2), some (.ref 17), some (.ref 18), some (.ref 19), some (.int (sz C.st)), some (.int (sz C.nc)), some (.int (sz C.nr)), some (.int (sz 1)), some (.ref a), l10, l11, l12, l13, l14, l15, l16, l17, l18, l19, l20, l21, l22, l23, l24, l25, l26, l27, l28, l29, l30, l31, l32] h := by
  have hC := L1_ok hL
  have hdim := hL.2.2.2.2.1
  have hnc1 : (C.nc : Int) + 1 = ((C.nc + 1 : Nat) : Int) := by omega
  have w1 := w_motif_wide (S := S) hL.1 (i := 0) ⟨by decide, rfl⟩ (w := ((C.nc + 1 : Nat) : Int)) (v := 1) (s := 0) (by show (C.nc : Int) < _ ∧ _; omega)
  have hL1 := L1_exc hL
  have w2 := w_motif_lean (S := S) hL1.1 (i := 0) ⟨by decide, rfl⟩
  have hL2 := L1_exc hL1
  obtain ⟨v, hv, p1⟩ := m_in (S := S) (i := 7) (n := 16) (by omega) (by omega) (by omega)
  obtain ⟨h3, w3, B3, g3⟩ := w_setRules (S := S) hL2.1 (i := 0) ⟨by decide, rfl⟩ (u := v) (by omega)
  have B3 : sx_BV h3 4 9999 ws [(c, (C.st, C.nc, C.nr, C.ks, v))] := B3
  rw [hru] at w3
  have hL3 : sx_L1 h3 ws wl c a (C.st, C.nc, C.nr, C.ks, v) _ := L1_upd hL2 B3 g3 (fun x (q : x = c) => Or.inl q) hL2.2.2.1 hL2.2.2.2.1.2 hdim
  have w4 := w_setRules_no (S := S) hL3.1 (i := 0) ⟨by decide, rfl⟩ (u := 16) (by omega)
  have hL4 := L1_exc hL3
  have w5 := w_broken_no (S := S) hL4.1 (i := 0) ⟨by decide, rfl⟩
  have hL5 := L1_exc hL4
  have nx := L_F (l10 := l10) (l11 := l11) (l12 := l12) (l13 := l13) (l14 := l14) (l18 := l18) (l19 := l19) (l20 := l20) (l21 := l21) (l22 := l22) (l23 := l23) (l24 := l24) (l25 := l25) (l26 := l26) (l27 := l27) (l28 := l28) (l29 := l29) (l30 := l30) (l31 := l31) (l32 := l32) hS hL5 (by omega) C.ks.length 0 (Nat.zero_add _)
  unfold sx_OK at nx ⊢
  simp (maxSteps := 2000000) (disch := omega) only [e121_531, e121_533, e121_534, e121_535, e121_537, e121_538, e121_539, e121_540, e121_541, e121_544, e121_546, e121_549, e121_550, e121_551, e121_552, e121_553, e121_555, e121_558, e121_560, e121_563, e121_564, e121_567, e121_568, e121_569, e121_571, e121_572, e121_574, e121_576, e121_579, e121_581, e121_583, e121_584, e121_585, e121_587, e121_590, e121_593, e121_594, e121_595, e121_597, e121_600, e121_602, e121_605, e121_606, e121_607, e121_608, e121_611, e121_613, e121_616, e121_617, e121_620, e121_621, e121_622, e121_624, e121_625, e121_627, e121_628, hnc1, w1, w2, p1, w3, w4, w5, eq_self, sz_and11, Option.bind_some, sz_lt0, sz_lt, sz_0lt, sz_mul, sz_add, sz_sub, sz_eq0, sz_eq, sz_nat, List.length_map, nb0, nb1, bz_eq0, ↓reduceIte, Int.reduceEq, Int.reduceLT, Int.reduceAdd, Int.reduceSub, Int.reduceMul, Int.reduceNeg]
  exact nx
end SXEE
