/-! THE LAW: ways and fill are asked -/
/-- what the trying of all codes has found: how many are good, and the first one -/
def sx_FW (h : sx_H) (C : Clo) (ch f P : Nat) (W : Int) : Prop := (W = 0 ∧ ∀ c, c < P → C.gd ch C.ems c = false) ∨ (0 < W ∧ ∃ c0, c0 < P ∧ C.gd ch C.ems c0 = true ∧ (∀ c', c' < c0 → C.gd ch C.ems c' = false) ∧ sx_get h f = some (.inl ((Clo.fil ch C.ems c0 C).ks.map sz)))
section SXK
variable {S : List Int32} {h : sx_H} {ws wl : List Int} {c a f N ch : Nat} {C : Clo} {W : Int}
theorem L1_upd {h1 : sx_H} {D : Clo} {a' d e : Nat} {P : Nat → Prop} (hL : sx_L1 h ws wl c a C N) (hB : sx_BV h1 4 9999 ws [(c, D)]) (g : sx_gr P d e h h1) (hP : ∀ x, P x → x = c ∨ x = c + 3 ∨ x = c + 4 ∨ x = 15 ∨ x = 16) (ha : sx_get h a' = some (.inl (D.ks.map sz))) (hca : c + 7 ≤ a') (hdim : D.nc ≤ 6 ∧ D.nr ≤ 5) : sx_L1 h1 ws wl c a' D (N + d + e) := by
  obtain ⟨-, ⟨w1, w2, w3, w4⟩, -, hadd, -, hn1, hn2⟩ := hL
  exact ⟨hB, ⟨g.1.2.2 _ _ (fun q => by have := hP _ q; omega) w1, w2, w3, w4⟩, g.1.2.2 _ _ (fun q => by have := hP _ q; omega) ha, ⟨hadd.1, hca⟩, hdim, by rw [g.2.1]; omega, by rw [g.2.2]; omega⟩
theorem L_K (hS : S.length ≤ 260) (hL : sx_L1 h ws wl c a C N) (hN : N ≤ 400000) (hch : 1 ≤ ch ∧ ch ≤ 4) (hf : c + 7 ≤ f) (hW : 0 ≤ W ∧ W ≤ 100000) (hF : C.many (-1) ≤ 6 → sx_FW h C ch f (ch ^ C.ems.length) W) {l10 l11 l12 l13 l14 l15 l19 l21 l22 l23 l24 l25 l26 l27 l28 l29 l30 l31 l32 : Option Value} :
    sx_OK S 1018 [some (.ref 0), some (.ref 2), some (.ref 17), some (.ref 18), some (.ref 19), some (.int (sz C.st)), some (.int (sz C.nc)), some (.int (sz C.nr)), some (.int (sz 1)), some (.ref a), l10, l11, l12, l13, l14, l15, some (.int (sz (C.many (-1)))), some (.int (sz ch)), some (.int (sz W)), l19, some (.ref f), l21, l22, l23, l24, l25, l26, l27, l28, l29, l30, l31, l32] h := by
  have hC := L1_ok hL
  have hdim := hL.2.2.2.2.1
  have hmb := Clo.many_bd hC (-1)
  have hob := Clo.own_bd hC
  by_cases hm : C.many (-1) ≤ 6
  · have k6 : (6 < C.many (-1)) = False := eq_false (by omega)
    have hF := hF hm
    obtain ⟨h', D, x, p1, pd, B1, d, hd, g1⟩ := w_fill (S := S) hL.1 (i := 0) ⟨by decide, rfl⟩ hch hm
    have B1 : sx_BV h' 4 9999 ws [(c, D)] := B1
    rcases pd with ⟨q1, q2, q3⟩ | ⟨q1, q2, q3⟩
    · -- no way
      have hW0 : W = 0 := by
        rcases hF with ⟨r1, _⟩ | ⟨r1, c0, r2, r3, _⟩
        · exact r1
        · have ho := Clo.fil_mono hch C.ems c0 C hC C.ems_fre r2 (of_decide_eq_true r3)
          rcases q3 with q3 | q3
          · omega
          · rcases Clo.fst_first hch C.ems C hC C.ems_fre ho with ⟨_, s2⟩ | ⟨c1, _, _, _, s4⟩
            · rw [s2 c0 r2] at r3; cases r3
            · rw [q3] at s4; cases s4
      subst q1
      subst hW0
      rw [q2] at B1
      have hL' := L1_upd hL B1 g1 (fun x q => by omega) hL.2.2.1 hL.2.2.2.1.2 hdim
      have nx := L_L0 (l10 := l10) (l11 := l11) (l12 := l12) (l13 := l13) (l14 := l14) (l15 := l15) (l16 := some (.int (sz (C.many (-1))))) (l17 := some (.int (sz ch))) (l18 := some (.int (sz 0))) (l19 := l19) (l20 := some (.ref f)) (l21 := l21) (l22 := l22) (l23 := l23) (l24 := l24) (l25 := l25) (l26 := l26) (l27 := l27) (l28 := l28) (l29 := l29) (l30 := l30) (l31 := l31) (l32 := l32) hS hL' (by omega)
      unfold sx_OK at nx ⊢
      simp (maxSteps := 2000000) (disch := omega) only [e121_1018, e121_1020, e121_1022, e121_1025, e121_1027, e121_1028, e121_1029, e121_1031, e121_1034, e121_1036, e121_1039, e121_1041, e121_1044, e121_1046, e121_1049, e121_1050, e121_1053, e121_1054, e121_1055, e121_1057, e121_1059, e121_1062, e121_1064, e121_1067, e121_1069, k6, p1, eq_self, sz_and11, Option.bind_some, sz_lt0, sz_lt, sz_0lt, sz_mul, sz_add, sz_sub, sz_eq0, sz_eq, sz_nat, List.length_map, nb0, nb1, bz_eq0, ↓reduceIte, Int.reduceEq, Int.reduceLT, Int.reduceAdd, Int.reduceSub, Int.reduceMul, Int.reduceNeg]
      exact nx
    · -- the first one
      have ho : C.own = 0 := by omega
      rcases Clo.fst_first hch C.ems C hC C.ems_fre ho with ⟨s1, _⟩ | ⟨c1, s1, s2, s3, s4⟩
      · rw [q3] at s1; cases s1
      · rw [q3] at s4
        cases s4
        rcases hF with ⟨r1, r2⟩ | ⟨r1, c0, r2, r3, r4, r5⟩
        · rw [r2 c1 s1] at s2; cases s2
        · have hcc : c0 = c1 := by
            rcases Nat.lt_trichotomy c0 c1 with z | z | z
            · rw [s3 c0 z] at r3; cases r3
            · exact z
            · rw [r4 c1 z] at s2; cases s2
          subst hcc
          obtain ⟨t1, t2, t3, t4, t5, t6⟩ := Clo.fil_ok hch C.ems c0 C hC r2
          have hL' := L1_upd hL B1 g1 (fun x q => by omega) r5 hf (by rw [t3, t4]; exact hdim)
          have nx := L_L0 (l10 := l10) (l11 := l11) (l12 := l12) (l13 := l13) (l14 := l14) (l15 := l15) (l16 := some (.int (sz (C.many (-1))))) (l17 := some (.int (sz ch))) (l18 := some (.int (sz W))) (l19 := l19) (l20 := some (.ref f)) (l21 := l21) (l22 := l22) (l23 := l23) (l24 := l24) (l25 := l25) (l26 := l26) (l27 := l27) (l28 := l28) (l29 := l29) (l30 := l30) (l31 := l31) (l32 := l32) hS hL' (by omega)
          rw [t2, t3, t4] at nx
          have kW : (W = 0) = False := eq_false (by omega)
          subst q1
          unfold sx_OK at nx ⊢
          simp (maxSteps := 2000000) (disch := omega) only [e121_1018, e121_1020, e121_1022, e121_1025, e121_1027, e121_1028, e121_1029, e121_1031, e121_1034, e121_1036, e121_1039, e121_1041, e121_1044, e121_1046, e121_1049, e121_1050, e121_1053, e121_1054, e121_1055, e121_1057, e121_1059, e121_1062, e121_1064, e121_1067, e121_1069, k6, p1, kW, eq_self, sz_and11, Option.bind_some, sz_lt0, sz_lt, sz_0lt, sz_mul, sz_add, sz_sub, sz_eq0, sz_eq, sz_nat, List.length_map, nb0, nb1, bz_eq0, ↓reduceIte, Int.reduceEq, Int.reduceLT, Int.reduceAdd, Int.reduceSub, Int.reduceMul, Int.reduceNeg]
          exact nx
  · have k6 : (6 < C.many (-1)) = True := eq_true (by omega)
    have nx := L_L0 (l10 := l10) (l11 := l11) (l12 := l12) (l13 := l13) (l14 := l14) (l15 := l15) (l16 := some (.int (sz (C.many (-1))))) (l17 := some (.int (sz ch))) (l18 := some (.int (sz W))) (l19 := l19) (l20 := some (.ref f)) (l21 := l21) (l22 := l22) (l23 := l23) (l24 := l24) (l25 := l25) (l26 := l26) (l27 := l27) (l28 := l28) (l29 := l29) (l30 := l30) (l31 := l31) (l32 := l32) hS hL (by omega)
    unfold sx_OK at nx ⊢
    simp (maxSteps := 2000000) (disch := omega) only [e121_1018, e121_1020, e121_1022, e121_1025, e121_1027, e121_1028, e121_1029, e121_1031, e121_1034, e121_1036, e121_1039, e121_1041, e121_1044, e121_1046, e121_1049, e121_1050, e121_1053, e121_1054, e121_1055, e121_1057, e121_1059, e121_1062, e121_1064, e121_1067, e121_1069, k6, Option.bind_some, sz_lt0, sz_lt, sz_0lt, sz_mul, sz_add, sz_sub, sz_eq0, sz_eq, sz_nat, List.length_map, nb0, nb1, bz_eq0, ↓reduceIte, Int.reduceEq, Int.reduceLT, Int.reduceAdd, Int.reduceSub, Int.reduceMul, Int.reduceNeg]
    exact nx
theorem sx_FW.kp {h1 : sx_H} {P : Nat} {Q : Nat → Prop} {d e : Nat} (hF : sx_FW h C ch f P W) (g : sx_gr Q d e h h1) (hQ : ¬ Q f) : sx_FW h1 C ch f P W := by
  rcases hF with q | ⟨q1, c0, q2, q3, q4, q5⟩
  · exact Or.inl q
  · exact Or.inr ⟨q1, c0, q2, q3, q4, g.1.2.2 _ _ hQ q5⟩
theorem L_J (hS : S.length ≤ 260) (hL : sx_L1 h ws wl c a C N) (hN : N ≤ 300000) (hch : 1 ≤ ch ∧ ch ≤ 4) (hf : c + 7 ≤ f) (hW : 0 ≤ W ∧ W ≤ 100000) (hF : C.many (-1) ≤ 6 → sx_FW h C ch f (ch ^ C.ems.length) W) (hs : C.many (-1) ≤ 6 → W = nsum (fun c => bz (C.gd ch C.ems c)) 0 (ch ^ C.ems.length)) {l10 l11 l12 l13 l14 l15 l19 l21 l22 l23 l24 l25 l26 l27 l28 l29 l30 l31 l32 : Option Value} :
    sx_OK S 973 [some (.ref 0), some (.ref 2), some (.ref 17), some (.ref 18), some (.ref 19), some (.int (sz C.st)), some (.int (sz C.nc)), some (.int (sz C.nr)), some (.int (sz 1)), some (.ref a), l10, l11, l12, l13, l14, l15, some (.int (sz (C.many (-1)))), some (.int (sz ch)), some (.int (sz W)), l19, some (.ref f), l21, l22, l23, l24, l25, l26, l27, l28, l29, l30, l31, l32] h := by
  have hC := L1_ok hL
  have hdim := hL.2.2.2.2.1
  have hadd := hL.2.2.2.1
  have hmb := Clo.many_bd hC (-1)
  by_cases hm : C.many (-1) ≤ 6
  · have k6 : (6 < C.many (-1)) = False := eq_false (by omega)
    obtain ⟨h1, p1, B1, g1⟩ := w_ways (S := S) hL.1 (i := 0) ⟨by decide, rfl⟩ hch hm
    rw [Clo.waysN_sum hC hch, ← hs hm] at p1
    have B1 : sx_BV h1 4 9999 ws [(c, C)] := B1
    have hL1 := L1_upd hL B1 g1 (fun x q => by omega) hL.2.2.1 hL.2.2.2.1.2 hdim
    have w2 := w_ways_no (S := S) hL1.1 (i := 0) ⟨by decide, rfl⟩ (ch := 5) (by omega)
    have hL2 := L1_exc hL1
    have nx := L_K (l10 := l10) (l11 := l11) (l12 := l12) (l13 := l13) (l14 := l14) (l15 := l15) (l19 := l19) (l21 := l21) (l22 := l22) (l23 := l23) (l24 := l24) (l25 := l25) (l26 := l26) (l27 := l27) (l28 := l28) (l29 := l29) (l30 := l30) (l31 := l31) (l32 := l32) hS hL2 (by omega) hch hf hW (fun z => ((hF z).kp g1 (by omega)).kp (sx_gr.push (A := fun _ => False) h1 none 6) id)
    unfold sx_OK at nx ⊢
    simp (maxSteps := 2000000) (disch := omega) only [e121_973, e121_975, e121_976, e121_977, e121_979, e121_982, e121_984, e121_986, e121_989, e121_991, e121_994, e121_996, e121_999, e121_1000, e121_1001, e121_1002, e121_1005, e121_1007, e121_1010, e121_1011, e121_1014, e121_1015, e121_1016, k6, p1, w2, eq_self, sz_and11, Option.bind_some, sz_lt0, sz_lt, sz_0lt, sz_mul, sz_add, sz_sub, sz_eq0, sz_eq, sz_nat, List.length_map, nb0, nb1, bz_eq0, ↓reduceIte, Int.reduceEq, Int.reduceLT, Int.reduceAdd, Int.reduceSub, Int.reduceMul, Int.reduceNeg]
    exact nx
  · have k6 : (6 < C.many (-1)) = True := eq_true (by omega)
    have w1 := w_ways_many (S := S) hL.1 (i := 0) ⟨by decide, rfl⟩ (ch := (ch : Int)) (by omega) (by omega)
    have hL1 := L1_exc hL
    have w2 := w_ways_no (S := S) hL1.1 (i := 0) ⟨by decide, rfl⟩ (ch := 5) (by omega)
    have hL2 := L1_exc hL1
    have nx := L_K (l10 := l10) (l11 := l11) (l12 := l12) (l13 := l13) (l14 := l14) (l15 := l15) (l19 := l19) (l21 := l21) (l22 := l22) (l23 := l23) (l24 := l24) (l25 := l25) (l26 := l26) (l27 := l27) (l28 := l28) (l29 := l29) (l30 := l30) (l31 := l31) (l32 := l32) hS hL2 (by omega) hch hf hW (fun z => absurd z hm)
    unfold sx_OK at nx ⊢
    simp (maxSteps := 2000000) (disch := omega) only [e121_973, e121_975, e121_976, e121_977, e121_979, e121_982, e121_984, e121_986, e121_989, e121_991, e121_994, e121_996, e121_999, e121_1000, e121_1001, e121_1002, e121_1005, e121_1007, e121_1010, e121_1011, e121_1014, e121_1015, e121_1016, k6, w1, w2, eq_self, sz_and11, Option.bind_some, sz_lt0, sz_lt, sz_0lt, sz_mul, sz_add, sz_sub, sz_eq0, sz_eq, sz_nat, List.length_map, nb0, nb1, bz_eq0, ↓reduceIte, Int.reduceEq, Int.reduceLT, Int.reduceAdd, Int.reduceSub, Int.reduceMul, Int.reduceNeg]
    exact nx
end SXK
