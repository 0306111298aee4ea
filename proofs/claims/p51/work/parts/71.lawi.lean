/-! THE LAW: all codes are tried -/
theorem Clo.own_br {C : Clo} (hC : C.ok) : C.own = 0 ↔ ((C.ru % 2 = 0 ∨ C.br 1 = 0) ∧ (C.ru / 2 % 2 = 0 ∨ C.br 2 = 0)) ∧ (C.ru / 4 % 2 = 0 ∨ C.br 4 = 0) ∧ (C.ru / 8 % 2 = 0 ∨ C.br 8 = 0) := by
  have k1 := C.br_bd hC 1
  have k2 := C.br_bd hC 2
  have k4 := C.br_bd hC 4
  have k8 := C.br_bd hC 8
  unfold Clo.own
  have i0 : ∀ (p : Int) (b : Int), 0 ≤ b → ((if p % 2 = 1 then b else 0) = 0 ↔ (p % 2 = 0 ∨ b = 0)) ∧ 0 ≤ (if p % 2 = 1 then b else 0) := fun p b hb => by
    by_cases q : p % 2 = 1
    · rw [if_pos q]; exact ⟨by omega, hb⟩
    · rw [if_neg q]; exact ⟨⟨fun _ => Or.inl (by omega), fun _ => rfl⟩, Int.le_refl _⟩
  obtain ⟨a1, b1⟩ := i0 C.ru (C.br 1) k1.1
  obtain ⟨a2, b2⟩ := i0 (C.ru / 2) (C.br 2) k2.1
  obtain ⟨a4, b4⟩ := i0 (C.ru / 4) (C.br 4) k4.1
  obtain ⟨a8, b8⟩ := i0 (C.ru / 8) (C.br 8) k8.1
  rw [← a1, ← a2, ← a4, ← a8]
  generalize (if C.ru % 2 = 1 then C.br 1 else 0) = u1 at *
  generalize (if C.ru / 2 % 2 = 1 then C.br 2 else 0) = u2 at *
  generalize (if C.ru / 4 % 2 = 1 then C.br 4 else 0) = u4 at *
  generalize (if C.ru / 8 % 2 = 1 then C.br 8 else 0) = u8 at *
  omega
theorem sx_FW.kp2 {h h1 : sx_H} {C : Clo} {ch f P : Nat} {W : Int} {Q : Nat → Prop} {d e : Nat} (hF : sx_FW h C ch f P W) (g : sx_gr Q d e h h1) (hQ : ∀ x, Q x → sx_new h ≤ x) : sx_FW h1 C ch f P W := by
  rcases hF with q | ⟨q1, c0, q2, q3, q4, q5⟩
  · exact Or.inl q
  · exact Or.inr ⟨q1, c0, q2, q3, q4, g.1.2.2 _ _ (fun z => by have := hQ _ z; have := (sx_get_lt q5).2; omega) q5⟩
section SXI2
variable {S : List Int32} {h : sx_H} {ws wl : List Int} {c a b f N ch : Nat} {C : Clo} {W : Int}
theorem L_Id (hC : C.ok) (hab : a ≠ b) (hch : 1 ≤ ch ∧ ch ≤ 4) {code : Nat} (hcd : code ≤ 100000) : ∀ (n : Nat) (h : sx_H) (xs : List Int) {l10 l11 l12 l13 l14 l15 l16 l18 l19 l20 l21 l25 l26 l27 l28 l29 l30 l31 l32 : Option Value}, n ≤ C.ks.length → sx_get h a = some (.inl (C.ks.map sz)) → sx_get h b = some (.inl (xs.map sz)) → xs.length = C.ks.length → (∀ j, n ≤ j → j < C.ks.length → xs.getD j 0 = C.dig ch code j) →
    ∃ (h' : sx_H) (ys : List Int) (l23' : Option Value), sx_Ev S 121 827 [some (.ref 0), some (.ref 2), some (.ref 17), some (.ref 18), some (.ref 19), some (.int (sz C.st)), some (.int (sz C.nc)), some (.int (sz C.nr)), some (.int (sz 1)), some (.ref a), l10, l11, l12, l13, l14, l15, l16, some (.int (sz ch)), l18, l19, l20, l21, some (.ref b), some (.int (sz ((code / ch ^ C.emc n : Nat) : Int))), some (.int (sz ((n : Int) - 1))), l25, l26, l27, l28, l29, l30, l31, l32] [] h =
      sx_Ev S 121 883 [some (.ref 0), some (.ref 2), some (.ref 17), some (.ref 18), some (.ref 19), some (.int (sz C.st)), some (.int (sz C.nc)), some (.int (sz C.nr)), some (.int (sz 1)), some (.ref a), l10, l11, l12, l13, l14, l15, l16, some (.int (sz ch)), l18, l19, l20, l21, some (.ref b), l23', some (.int (sz (-1))), l25, l26, l27, l28, l29, l30, l31, l32] [] h' ∧ sx_get h' b = some (.inl (ys.map sz)) ∧ ys.length = C.ks.length ∧ (∀ j, j < C.ks.length → ys.getD j 0 = C.dig ch code j) ∧ sx_gr (· = b) 0 0 h h' := by
  have hlen : C.ks.length ≤ 144 := by rw [hC.2.2.1]; exact mulN_bd hC.2.1.2 hC.1.2
  intro n
  induction n with
  | zero =>
    intro h xs l10 l11 l12 l13 l14 l15 l16 l18 l19 l20 l21 l25 l26 l27 l28 l29 l30 l31 l32 hn ha hb hl hx
    refine ⟨h, xs, some (.int (sz ((code / ch ^ C.emc 0 : Nat) : Int))), ?_, hb, hl, fun j hj => hx j (Nat.zero_le _) hj, sx_gr.refl h⟩
    rw [h121_827, show ((0 : Nat) : Int) - 1 = -1 by omega]
    simp (maxSteps := 2000000) (disch := omega) only [e121_829, e121_832, e121_834, e121_836, e121_838, e121_840, e121_841, e121_844, e121_846, e121_848, e121_849, e121_852, e121_854, e121_856, e121_857, e121_858, e121_860, e121_862, e121_864, e121_865, e121_868, e121_870, e121_873, e121_874, e121_875, e121_877, e121_880, Option.bind_some, sz_lt0, sz_lt, sz_0lt, sz_mul, sz_add, sz_sub, sz_eq0, sz_eq, sz_nat, List.length_map, nb0, nb1, bz_eq0, ↓reduceIte, Int.reduceEq, Int.reduceLT, Int.reduceAdd, Int.reduceSub, Int.reduceMul, Int.reduceNeg]
  | succ n ih =>
    intro h xs l10 l11 l12 l13 l14 l15 l16 l18 l19 l20 l21 l25 l26 l27 l28 l29 l30 l31 l32 hn ha hb hl hx
    have rd := sx_rd_of (S := S) (x := (n : Int)) ha (by omega) (by omega)
    rw [show (n : Int).toNat = n by omega] at rd
    have hkb := kk_bd hC n
    have hem := C.emc_step hC (i := n) (by omega)
    have hn1 : ((n + 1 : Nat) : Int) - 1 = n := by omega
    have hn2 : (n : Int) + -1 = (n : Int) - 1 := by omega
    obtain ⟨left, hleft⟩ : ∃ left, code / ch ^ C.emc (n + 1) = left := ⟨_, rfl⟩
    have hlb : left ≤ code := by rw [← hleft]; exact Nat.div_le_self _ _
    have hdig : C.dig ch code n = if C.ks.getD n 0 < 0 then ((left % ch : Nat) : Int) else C.ks.getD n 0 := by unfold Clo.dig; rw [hleft]
    have hnx : code / ch ^ C.emc n = if C.ks.getD n 0 < 0 then left / ch else left := by
      rw [hem]
      by_cases q : C.ks.getD n 0 < 0
      · rw [if_pos q, if_pos q, Nat.pow_succ, ← Nat.div_div_eq_div_mul, hleft]
      · rw [if_neg q, if_neg q, Nat.add_zero, hleft]
    obtain ⟨h1, p1, q1, g1⟩ := sx_wi (x := (n : Int)) (v := C.dig ch code n) hb (by omega) (by omega)
    rw [show (n : Int).toNat = n by omega] at q1
    have ha1 := g1.1.2.2 a _ hab ha
    have rd1 := sx_rd_of (S := S) (x := (n : Int)) ha1 (by omega) (by omega)
    rw [show (n : Int).toNat = n by omega] at rd1
    obtain ⟨h', ys, l23', e1, e2, e3, e4, e5⟩ := @ih h1 (xs.set n (C.dig ch code n)) l10 l11 l12 l13 l14 l15 l16 l18 l19 l20 l21 l25 l26 l27 l28 l29 l30 l31 l32 (by omega) ha1 q1 (by rw [List.length_set]; exact hl) (fun j h1 h2 => by
      rw [sx_getD_set _ _ _ _ (by omega)]
      by_cases z : n = j
      · rw [if_pos z, z]
      · rw [if_neg z]; exact hx j (by omega) h2)
    refine ⟨h', ys, l23', ?_, e2, e3, e4, g1.trans e5⟩
    rw [← e1, hleft, hnx, h121_827, hn1]
    have hz : ((ch : Int) = 0) = False := eq_false (by omega)
    have d1 := nat_tdiv left ch
    have d2 := nat_tmod left ch
    have nn : ((n : Int) < 0) = False := eq_false (by omega)
    rw [hdig] at p1
    by_cases q : C.ks.getD n 0 < 0
    · rw [if_pos q] at p1
      have kq : (C.ks.getD n 0 < 0) = True := eq_true q
      simp (maxSteps := 2000000) (disch := omega) only [e121_829, e121_832, e121_834, e121_836, e121_838, e121_840, e121_841, e121_844, e121_846, e121_848, e121_849, e121_852, e121_854, e121_856, e121_857, e121_858, e121_860, e121_862, e121_864, e121_865, e121_868, e121_870, e121_873, e121_874, e121_875, e121_877, e121_880, nn, rd, kq, sz_tdiv, d1, d2, hz, p1, rd1, hn2, Option.bind_some, sz_lt0, sz_lt, sz_0lt, sz_mul, sz_add, sz_sub, sz_eq0, sz_eq, sz_nat, List.length_map, nb0, nb1, bz_eq0, ↓reduceIte, Int.reduceEq, Int.reduceLT, Int.reduceAdd, Int.reduceSub, Int.reduceMul, Int.reduceNeg]
    · rw [if_neg q] at p1
      have kq : (C.ks.getD n 0 < 0) = False := eq_false q
      have t1 : (left : Int).tdiv 1 = left := Int.tdiv_one _
      simp (maxSteps := 2000000) (disch := omega) only [e121_829, e121_832, e121_834, e121_836, e121_838, e121_840, e121_841, e121_844, e121_846, e121_848, e121_849, e121_852, e121_854, e121_856, e121_857, e121_858, e121_860, e121_862, e121_864, e121_865, e121_868, e121_870, e121_873, e121_874, e121_875, e121_877, e121_880, nn, rd, kq, sz_tdiv, t1, p1, rd1, hn2, Option.bind_some, sz_lt0, sz_lt, sz_0lt, sz_mul, sz_add, sz_sub, sz_eq0, sz_eq, sz_nat, List.length_map, nb0, nb1, bz_eq0, ↓reduceIte, Int.reduceEq, Int.reduceLT, Int.reduceAdd, Int.reduceSub, Int.reduceMul, Int.reduceNeg]
theorem L_Is {D : Clo} (hst : D.st = C.st) (hnc : D.nc = C.nc) (hD : D.ok) (hb : sx_get h b = some (.inl (D.ks.map sz))) {u t : Int} (hu : u = 1 ∨ u = 2 ∨ u = 4 ∨ u = 8) (ht : sz C.ru &&& sz u = sz t) (htb : 0 ≤ t ∧ t ≤ 8) (g : Bool) {l10 l11 l12 l13 l14 l16 l17 l18 l19 l20 l21 l23 l26 l27 l28 l29 l30 l31 l32 : Option Value} :
    sx_Ev S 121 889 [some (.ref 0), some (.ref 2), some (.ref 17), some (.ref 18), some (.ref 19), some (.int (sz C.st)), some (.int (sz C.nc)), some (.int (sz C.nr)), some (.int (sz 1)), some (.ref a), l10, l11, l12, l13, l14, some (.int (sz C.ru)), l16, l17, l18, l19, l20, l21, some (.ref b), l23, some (.int (sz (bz g))), some (.int (sz u)), l26, l27, l28, l29, l30, l31, l32] [] h =
    sx_Ev S 121 889 [some (.ref 0), some (.ref 2), some (.ref 17), some (.ref 18), some (.ref 19), some (.int (sz C.st)), some (.int (sz C.nc)), some (.int (sz C.nr)), some (.int (sz 1)), some (.ref a), l10, l11, l12, l13, l14, some (.int (sz C.ru)), l16, l17, l18, l19, l20, l21, some (.ref b), l23, some (.int (sz (bz (g && decide (t = 0 ∨ D.br u = 0))))), some (.int (sz (u * 2))), l26, l27, l28, l29, l30, l31, l32] [] h := by
  have w := m_lbr (S := S) hD hb hu
  rw [hst, hnc, Clo.lbr_br hD hu] at w
  have hbb := D.br_bd hD u
  have hu8 : (8 < u) = False := eq_false (by omega)
  conv => lhs; rw [h121_889]
  by_cases q : t = 0
  · have kq : (t = 0) = True := eq_true q
    rw [decide_eq_true (p := t = 0 ∨ _) (Or.inl q), Bool.and_true]
    simp (maxSteps := 2000000) (disch := omega) only [e121_891, e121_893, e121_896, e121_898, e121_900, e121_902, e121_903, e121_906, e121_908, e121_910, e121_912, e121_914, e121_917, e121_920, e121_921, e121_924, e121_925, e121_926, e121_928, e121_930, e121_931, e121_932, e121_934, hu8, ht, kq, sz_bz1, Option.bind_some, sz_lt0, sz_lt, sz_0lt, sz_mul, sz_add, sz_sub, sz_eq0, sz_eq, sz_nat, List.length_map, nb0, nb1, bz_eq0, ↓reduceIte, Int.reduceEq, Int.reduceLT, Int.reduceAdd, Int.reduceSub, Int.reduceMul, Int.reduceNeg]
  · have kq : (t = 0) = False := eq_false q
    by_cases z : D.br u = 0
    · rw [decide_eq_true (p := t = 0 ∨ _) (Or.inr z), Bool.and_true]
      rw [z] at w
      simp (maxSteps := 2000000) (disch := omega) only [e121_891, e121_893, e121_896, e121_898, e121_900, e121_902, e121_903, e121_906, e121_908, e121_910, e121_912, e121_914, e121_917, e121_920, e121_921, e121_924, e121_925, e121_926, e121_928, e121_930, e121_931, e121_932, e121_934, hu8, ht, kq, w, sz_bz1, Option.bind_some, sz_lt0, sz_lt, sz_0lt, sz_mul, sz_add, sz_sub, sz_eq0, sz_eq, sz_nat, List.length_map, nb0, nb1, bz_eq0, ↓reduceIte, Int.reduceEq, Int.reduceLT, Int.reduceAdd, Int.reduceSub, Int.reduceMul, Int.reduceNeg]
    · have kz : (D.br u = 0) = False := eq_false z
      rw [decide_eq_false (p := t = 0 ∨ _) (by omega), Bool.and_false]
      simp (maxSteps := 2000000) (disch := omega) only [e121_891, e121_893, e121_896, e121_898, e121_900, e121_902, e121_903, e121_906, e121_908, e121_910, e121_912, e121_914, e121_917, e121_920, e121_921, e121_924, e121_925, e121_926, e121_928, e121_930, e121_931, e121_932, e121_934, hu8, ht, kq, w, kz, sz_bz0, Option.bind_some, sz_lt0, sz_lt, sz_0lt, sz_mul, sz_add, sz_sub, sz_eq0, sz_eq, sz_nat, List.length_map, nb0, nb1, bz_eq0, ↓reduceIte, Int.reduceEq, Int.reduceLT, Int.reduceAdd, Int.reduceSub, Int.reduceMul, Int.reduceNeg]
theorem L_I (hS : S.length ≤ 260) (hch : 1 ≤ ch ∧ ch ≤ 4) {P : Nat} (hP : P ≤ ch ^ C.ems.length ∧ P ≤ 4096) (hP6 : C.many (-1) ≤ 6 → P = ch ^ C.ems.length) : ∀ (n code : Nat) (h : sx_H) (N f : Nat) (W : Int) {l10 l11 l12 l13 l14 l22 l23 l24 l25 l26 l27 l28 l29 l30 l31 l32 : Option Value}, code + n = P → sx_L1 h ws wl c a C N → N + 31 * n ≤ 300000 → c + 7 ≤ f → W = nsum (fun c => bz (C.gd ch C.ems c)) 0 code → sx_FW h C ch f code W →
    sx_OK S 802 [some (.ref 0), some (.ref 2), some (.ref 17), some (.ref 18), some (.ref 19), some (.int (sz C.st)), some (.int (sz C.nc)), some (.int (sz C.nr)), some (.int (sz 1)), some (.ref a), l10, l11, l12, l13, l14, some (.int (sz C.ru)), some (.int (sz (C.many (-1)))), some (.int (sz ch)), some (.int (sz W)), some (.int (sz P)), some (.ref f), some (.int (sz code)), l22, l23, l24, l25, l26, l27, l28, l29, l30, l31, l32] h := by
  intro n
  induction n with
  | zero =>
    intro code h N f W l10 l11 l12 l13 l14 l22 l23 l24 l25 l26 l27 l28 l29 l30 l31 l32 hn hL hN hf hW hF
    have hce : code = P := by omega
    subst hce
    have hwb := nsum_bz_nn (fun c => C.gd ch C.ems c) code 0
    have nx := L_J (l10 := l10) (l11 := l11) (l12 := l12) (l13 := l13) (l14 := l14) (l15 := some (.int (sz C.ru))) (l19 := some (.int (sz code))) (l21 := some (.int (sz code))) (l22 := l22) (l23 := l23) (l24 := l24) (l25 := l25) (l26 := l26) (l27 := l27) (l28 := l28) (l29 := l29) (l30 := l30) (l31 := l31) (l32 := l32) hS hL (by omega) hch hf (W := W) (by omega) (fun z => by rw [← hP6 z]; exact hF) (fun z => by rw [← hP6 z]; exact hW)
    unfold sx_OK at nx ⊢
    rw [h121_802]
    simp (maxSteps := 2000000) (disch := omega) only [e121_804, e121_806, Option.bind_some, sz_lt0, sz_lt, sz_0lt, sz_mul, sz_add, sz_sub, sz_eq0, sz_eq, sz_nat, List.length_map, nb0, nb1, bz_eq0, ↓reduceIte, Int.reduceEq, Int.reduceLT, Int.reduceAdd, Int.reduceSub, Int.reduceMul, Int.reduceNeg]
    rw [if_neg (by omega)]
    exact nx
  | succ n ih =>
    intro code h N f W l10 l11 l12 l13 l14 l22 l23 l24 l25 l26 l27 l28 l29 l30 l31 l32 hn hL hN hf hW hF
    have hC := L1_ok hL
    have hlen := L1_len hL
    have hdim := hL.2.2.2.2.1
    have hadd := hL.2.2.2.1
    have hwb := nsum_bz_nn (fun c => C.gd ch C.ems c) code 0
    have i0 := sx_ints_of (S := S) hL.2.2.1
    have hcP : code < ch ^ C.ems.length := by omega
    -- a new array
    have hnew : a < sx_new h := (sx_get_lt hL.2.2.1).2
    have gb : sx_gr (fun x => a < x) 1 C.ks.length h (sx_push h (some (.inl (List.replicate C.ks.length 0))) C.ks.length) := sx_gr.push _ _ _
    have gb' : sx_gr (fun _ => False) 1 C.ks.length h (sx_push h (some (.inl (List.replicate C.ks.length 0))) C.ks.length) := sx_gr.push _ _ _
    have xb : sx_get (sx_push h (some (.inl (List.replicate C.ks.length 0))) C.ks.length) (sx_new h) = some (.inl (List.replicate C.ks.length 0)) := sx_get_new
    have tl : (sz (C.ks.length : Int)).toNatClampNeg = C.ks.length := by rw [sz_clamp (by omega)]; omega
    have zl := sx_nwz (n := C.ks.length) (by omega)
    have zi := sx_nwi C.ks.length
    generalize hb0 : sx_new h = b at *
    generalize hh1 : sx_push h (some (.inl (List.replicate C.ks.length 0))) C.ks.length = h1 at *
    have hL1 := L1_gr hL gb (fun x q => q)
    have i1 := sx_ints_of (S := S) hL1.2.2.1
    rw [sx_repl] at xb
    have hem0 : C.emc C.ks.length = 0 := by unfold Clo.emc; rw [Nat.sub_self]; rfl
    obtain ⟨h2, ys, m23, e1, e2, e3, e4, e5⟩ := L_Id (S := S) hC (a := a) (b := b) (by omega) hch (code := code) (by omega) C.ks.length h1 (List.replicate C.ks.length 0) (l10 := l10) (l11 := l11) (l12 := l12) (l13 := l13) (l14 := l14) (l15 := some (.int (sz C.ru))) (l16 := some (.int (sz (C.many (-1))))) (l18 := some (.int (sz W))) (l19 := some (.int (sz P))) (l20 := some (.ref f)) (l21 := some (.int (sz code))) (l25 := l25) (l26 := l26) (l27 := l27) (l28 := l28) (l29 := l29) (l30 := l30) (l31 := l31) (l32 := l32) (Nat.le_refl _) hL1.2.2.1 xb List.length_replicate (fun j h1 h2 => by omega)
    rw [hem0, Nat.pow_zero, Nat.div_one] at e1
    have hL2 := L1_gr hL1 e5 (fun x (q : x = b) => by omega)
    obtain ⟨t1, t2, t3, t4, t5, t6⟩ := Clo.fil_ok hch C.ems code C hC hcP
    have hys : ys = (Clo.fil ch C.ems code C).ks := by
      refine List.ext_getElem (by rw [e3, t6]) fun j h1 h2 => ?_
      have u1 := e4 j (by omega)
      have u2 := Clo.fil_ks hC hch hcP (j := j) (by omega)
      rw [← u2, List.getD_eq_getElem?_getD, List.getElem?_eq_getElem h1, List.getD_eq_getElem?_getD, List.getElem?_eq_getElem h2] at u1
      exact u1
    rw [hys] at e2
    have hru := hC.2.2.2.2.1
    have hgd : C.gd ch C.ems code = ((((true && decide (C.ru % 2 = 0 ∨ (Clo.fil ch C.ems code C).br 1 = 0)) && decide (2 * (C.ru / 2 % 2) = 0 ∨ (Clo.fil ch C.ems code C).br 2 = 0)) && decide (4 * (C.ru / 4 % 2) = 0 ∨ (Clo.fil ch C.ems code C).br 4 = 0)) && decide (8 * (C.ru / 8 % 2) = 0 ∨ (Clo.fil ch C.ems code C).br 8 = 0)) := by
      unfold Clo.gd
      have ho := Clo.own_br t1
      rw [t5] at ho
      rw [Bool.true_and, ← Bool.decide_and, ← Bool.decide_and, ← Bool.decide_and]
      refine decide_eq_decide.mpr (ho.trans ?_)
      generalize (Clo.fil ch C.ems code C).br 1 = b1
      generalize (Clo.fil ch C.ems code C).br 2 = b2
      generalize (Clo.fil ch C.ems code C).br 4 = b4
      generalize (Clo.fil ch C.ems code C).br 8 = b8
      omega
    have r1 := fun (g : Bool) => L_Is (S := S) (a := a) (C := C) t2 t3 t1 e2 (u := 1) (t := C.ru % 2) (by omega) (sz_and1 (by omega)) (by omega) g (l10 := l10) (l11 := l11) (l12 := l12) (l13 := l13) (l14 := l14) (l16 := some (.int (sz (C.many (-1))))) (l17 := some (.int (sz ch))) (l18 := some (.int (sz W))) (l19 := some (.int (sz P))) (l20 := some (.ref f)) (l21 := some (.int (sz code))) (l23 := m23) (l26 := l26) (l27 := l27) (l28 := l28) (l29 := l29) (l30 := l30) (l31 := l31) (l32 := l32)
    have r2 := fun (g : Bool) => L_Is (S := S) (a := a) (C := C) t2 t3 t1 e2 (u := 2) (t := 2 * (C.ru / 2 % 2)) (by omega) (sz_bit2 hru) (by omega) g (l10 := l10) (l11 := l11) (l12 := l12) (l13 := l13) (l14 := l14) (l16 := some (.int (sz (C.many (-1))))) (l17 := some (.int (sz ch))) (l18 := some (.int (sz W))) (l19 := some (.int (sz P))) (l20 := some (.ref f)) (l21 := some (.int (sz code))) (l23 := m23) (l26 := l26) (l27 := l27) (l28 := l28) (l29 := l29) (l30 := l30) (l31 := l31) (l32 := l32)
    have r4 := fun (g : Bool) => L_Is (S := S) (a := a) (C := C) t2 t3 t1 e2 (u := 4) (t := 4 * (C.ru / 4 % 2)) (by omega) (sz_bit4 hru) (by omega) g (l10 := l10) (l11 := l11) (l12 := l12) (l13 := l13) (l14 := l14) (l16 := some (.int (sz (C.many (-1))))) (l17 := some (.int (sz ch))) (l18 := some (.int (sz W))) (l19 := some (.int (sz P))) (l20 := some (.ref f)) (l21 := some (.int (sz code))) (l23 := m23) (l26 := l26) (l27 := l27) (l28 := l28) (l29 := l29) (l30 := l30) (l31 := l31) (l32 := l32)
    have r8 := fun (g : Bool) => L_Is (S := S) (a := a) (C := C) t2 t3 t1 e2 (u := 8) (t := 8 * (C.ru / 8 % 2)) (by omega) (sz_bit8 hru) (by omega) g (l10 := l10) (l11 := l11) (l12 := l12) (l13 := l13) (l14 := l14) (l16 := some (.int (sz (C.many (-1))))) (l17 := some (.int (sz ch))) (l18 := some (.int (sz W))) (l19 := some (.int (sz P))) (l20 := some (.ref f)) (l21 := some (.int (sz code))) (l23 := m23) (l26 := l26) (l27 := l27) (l28 := l28) (l29 := l29) (l30 := l30) (l31 := l31) (l32 := l32)
    have rall := (r1 true).trans ((r2 _).trans ((r4 _).trans (r8 _)))
    rw [← hgd] at rall
    have hc1 : (code : Int) + 1 = ((code + 1 : Nat) : Int) := by omega
    have hcl : ((code : Int) < P) = True := eq_true (by omega)
    have hFk : sx_FW h2 C ch f code W := hF.kp2 ((gb'.mono (B := fun x => x = b) fun x q => q.elim).trans e5) (fun x (q : x = b) => by omega)
    have hsum : nsum (fun c => bz (C.gd ch C.ems c)) 0 (code + 1) = W + bz (C.gd ch C.ems code) := by rw [nsum_r', Nat.zero_add, hW]
    have hbf : c + 7 ≤ b := by omega
    by_cases hg : C.gd ch C.ems code = true
    · rw [hg, bz_t] at hsum
      rw [hg, bz_t] at rall
      by_cases hw0 : W = 0
      · have hF' : sx_FW h2 C ch b (code + 1) (W + 1) := by
          rcases hFk with ⟨_, q2⟩ | ⟨q1, _⟩
          · exact Or.inr ⟨by omega, code, by omega, hg, q2, e2⟩
          · omega
        have nx := @ih (code + 1) h2 _ b (W + 1) l10 l11 l12 l13 l14 (some (.ref b)) m23 (some (.int (sz 1))) (some (.int (sz 16))) l26 l27 l28 l29 l30 l31 l32 (by omega) (L1_mono hL2 (Nat.le_refl _)) (by omega) hbf hsum.symm hF'
        have k0 : (W + 1 = 1) = True := eq_true (by omega)
        unfold sx_OK at nx ⊢
        rw [h121_802]
        simp (maxSteps := 2000000) (disch := omega) only [e121_804, e121_806, e121_809, e121_811, e121_812, e121_814, e121_816, e121_818, e121_820, e121_822, e121_823, e121_824, e121_825, i0, i1, hcl, tl, zl, zi, or_false, hb0, hh1, Option.bind_some, sz_lt0, sz_lt, sz_0lt, sz_mul, sz_add, sz_sub, sz_eq0, sz_eq, sz_nat, List.length_map, nb0, nb1, bz_eq0, ↓reduceIte, Int.reduceEq, Int.reduceLT, Int.reduceAdd, Int.reduceSub, Int.reduceMul, Int.reduceNeg]
        refine (congrArg (fun o => ∃ h', o = some (Sum.inl (some (Value.int (sz 1))), h') ∧ h'.1.length ≤ 600104 ∧ h'.2 ≤ 600104) e1).mpr ?_
        dsimp only
        simp (maxSteps := 2000000) (disch := omega) only [e121_883, e121_884, e121_886, e121_887, Option.bind_some, sz_lt0, sz_lt, sz_0lt, sz_mul, sz_add, sz_sub, sz_eq0, sz_eq, sz_nat, List.length_map, nb0, nb1, bz_eq0, ↓reduceIte, Int.reduceEq, Int.reduceLT, Int.reduceAdd, Int.reduceSub, Int.reduceMul, Int.reduceNeg]
        refine (congrArg (fun o => ∃ h', o = some (Sum.inl (some (Value.int (sz 1))), h') ∧ h'.1.length ≤ 600104 ∧ h'.2 ≤ 600104) rall).mpr ?_
        dsimp only
        rw [h121_889]
        simp (maxSteps := 2000000) (disch := omega) only [e121_891, e121_893, e121_896, e121_898, e121_900, e121_902, e121_903, e121_906, e121_908, e121_910, e121_912, e121_914, e121_917, e121_920, e121_921, e121_924, e121_925, e121_926, e121_928, e121_930, e121_931, e121_932, e121_934, e121_937, e121_939, e121_941, e121_944, e121_945, e121_948, e121_949, e121_950, e121_952, e121_954, e121_957, e121_959, e121_960, e121_963, e121_965, e121_967, e121_970, k0, hc1, Option.bind_some, sz_lt0, sz_lt, sz_0lt, sz_mul, sz_add, sz_sub, sz_eq0, sz_eq, sz_nat, List.length_map, nb0, nb1, bz_eq0, ↓reduceIte, Int.reduceEq, Int.reduceLT, Int.reduceAdd, Int.reduceSub, Int.reduceMul, Int.reduceNeg]
        exact nx
      · have hF' : sx_FW h2 C ch f (code + 1) (W + 1) := by
          rcases hFk with ⟨q1, _⟩ | ⟨q1, c0, q2, q3, q4, q5⟩
          · omega
          · exact Or.inr ⟨by omega, c0, by omega, q3, q4, q5⟩
        have nx := @ih (code + 1) h2 _ f (W + 1) l10 l11 l12 l13 l14 (some (.ref b)) m23 (some (.int (sz 1))) (some (.int (sz 16))) l26 l27 l28 l29 l30 l31 l32 (by omega) (L1_mono hL2 (Nat.le_refl _)) (by omega) hf hsum.symm hF'
        have k0 : (W + 1 = 1) = False := eq_false (by omega)
        unfold sx_OK at nx ⊢
        rw [h121_802]
        simp (maxSteps := 2000000) (disch := omega) only [e121_804, e121_806, e121_809, e121_811, e121_812, e121_814, e121_816, e121_818, e121_820, e121_822, e121_823, e121_824, e121_825, i0, i1, hcl, tl, zl, zi, or_false, hb0, hh1, Option.bind_some, sz_lt0, sz_lt, sz_0lt, sz_mul, sz_add, sz_sub, sz_eq0, sz_eq, sz_nat, List.length_map, nb0, nb1, bz_eq0, ↓reduceIte, Int.reduceEq, Int.reduceLT, Int.reduceAdd, Int.reduceSub, Int.reduceMul, Int.reduceNeg]
        refine (congrArg (fun o => ∃ h', o = some (Sum.inl (some (Value.int (sz 1))), h') ∧ h'.1.length ≤ 600104 ∧ h'.2 ≤ 600104) e1).mpr ?_
        dsimp only
        simp (maxSteps := 2000000) (disch := omega) only [e121_883, e121_884, e121_886, e121_887, Option.bind_some, sz_lt0, sz_lt, sz_0lt, sz_mul, sz_add, sz_sub, sz_eq0, sz_eq, sz_nat, List.length_map, nb0, nb1, bz_eq0, ↓reduceIte, Int.reduceEq, Int.reduceLT, Int.reduceAdd, Int.reduceSub, Int.reduceMul, Int.reduceNeg]
        refine (congrArg (fun o => ∃ h', o = some (Sum.inl (some (Value.int (sz 1))), h') ∧ h'.1.length ≤ 600104 ∧ h'.2 ≤ 600104) rall).mpr ?_
        dsimp only
        rw [h121_889]
        simp (maxSteps := 2000000) (disch := omega) only [e121_891, e121_893, e121_896, e121_898, e121_900, e121_902, e121_903, e121_906, e121_908, e121_910, e121_912, e121_914, e121_917, e121_920, e121_921, e121_924, e121_925, e121_926, e121_928, e121_930, e121_931, e121_932, e121_934, e121_937, e121_939, e121_941, e121_944, e121_945, e121_948, e121_949, e121_950, e121_952, e121_954, e121_957, e121_959, e121_960, e121_963, e121_965, e121_967, e121_970, k0, hc1, Option.bind_some, sz_lt0, sz_lt, sz_0lt, sz_mul, sz_add, sz_sub, sz_eq0, sz_eq, sz_nat, List.length_map, nb0, nb1, bz_eq0, ↓reduceIte, Int.reduceEq, Int.reduceLT, Int.reduceAdd, Int.reduceSub, Int.reduceMul, Int.reduceNeg]
        exact nx
    · have hg2 : C.gd ch C.ems code = false := by simpa using hg
      rw [hg2, bz_f, Int.add_zero] at hsum
      rw [hg2, bz_f] at rall
      have hF' : sx_FW h2 C ch f (code + 1) W := by
        rcases hFk with ⟨q1, q2⟩ | ⟨q1, c0, q2, q3, q4, q5⟩
        · refine Or.inl ⟨q1, fun c hc => ?_⟩
          by_cases z : c = code
          · rw [z]; exact hg2
          · exact q2 c (by omega)
        · exact Or.inr ⟨q1, c0, by omega, q3, q4, q5⟩
      have nx := @ih (code + 1) h2 _ f W l10 l11 l12 l13 l14 (some (.ref b)) m23 (some (.int (sz 0))) (some (.int (sz 16))) l26 l27 l28 l29 l30 l31 l32 (by omega) (L1_mono hL2 (Nat.le_refl _)) (by omega) hf hsum.symm hF'
      unfold sx_OK at nx ⊢
      rw [h121_802]
      simp (maxSteps := 2000000) (disch := omega) only [e121_804, e121_806, e121_809, e121_811, e121_812, e121_814, e121_816, e121_818, e121_820, e121_822, e121_823, e121_824, e121_825, i0, i1, hcl, tl, zl, zi, or_false, hb0, hh1, Option.bind_some, sz_lt0, sz_lt, sz_0lt, sz_mul, sz_add, sz_sub, sz_eq0, sz_eq, sz_nat, List.length_map, nb0, nb1, bz_eq0, ↓reduceIte, Int.reduceEq, Int.reduceLT, Int.reduceAdd, Int.reduceSub, Int.reduceMul, Int.reduceNeg]
      refine (congrArg (fun o => ∃ h', o = some (Sum.inl (some (Value.int (sz 1))), h') ∧ h'.1.length ≤ 600104 ∧ h'.2 ≤ 600104) e1).mpr ?_
      dsimp only
      simp (maxSteps := 2000000) (disch := omega) only [e121_883, e121_884, e121_886, e121_887, Option.bind_some, sz_lt0, sz_lt, sz_0lt, sz_mul, sz_add, sz_sub, sz_eq0, sz_eq, sz_nat, List.length_map, nb0, nb1, bz_eq0, ↓reduceIte, Int.reduceEq, Int.reduceLT, Int.reduceAdd, Int.reduceSub, Int.reduceMul, Int.reduceNeg]
      refine (congrArg (fun o => ∃ h', o = some (Sum.inl (some (Value.int (sz 1))), h') ∧ h'.1.length ≤ 600104 ∧ h'.2 ≤ 600104) rall).mpr ?_
      dsimp only
      rw [h121_889]
      simp (maxSteps := 2000000) (disch := omega) only [e121_891, e121_893, e121_896, e121_898, e121_900, e121_902, e121_903, e121_906, e121_908, e121_910, e121_912, e121_914, e121_917, e121_920, e121_921, e121_924, e121_925, e121_926, e121_928, e121_930, e121_931, e121_932, e121_934, e121_937, e121_939, e121_941, e121_944, e121_945, e121_948, e121_949, e121_950, e121_952, e121_954, e121_957, e121_959, e121_960, e121_963, e121_965, e121_967, e121_970, hc1, Option.bind_some, sz_lt0, sz_lt, sz_0lt, sz_mul, sz_add, sz_sub, sz_eq0, sz_eq, sz_nat, List.length_map, nb0, nb1, bz_eq0, ↓reduceIte, Int.reduceEq, Int.reduceLT, Int.reduceAdd, Int.reduceSub, Int.reduceMul, Int.reduceNeg]
      rw [Int.add_zero]
      exact nx
end SXI2
