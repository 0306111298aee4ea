/-! THE LAW, from its beginning -/
section SXAA
variable {S : List Int32} {h : sx_H} {ws wl : List Int} {c a N : Nat} {C : Clo}
theorem L_B (hS : S.length ≤ 260) : ∀ (n k : Nat) (h : sx_H) (C : Clo) (xs : List Int) {l11 l12 l13 l14 l15 l16 l17 l18 l19 l20 l21 l22 l23 l24 l25 l26 l27 l28 l29 l30 l31 l32 : Option Value}, k + n = C.ks.length → sx_BV h 4 9999 ws [(c, C)] → (sx_get h 17 = some (.inl (wl.map sz)) ∧ wl.length = 4 ∧ (∀ j, j < 4 → wl.getD j 0 = ws.getD j 0) ∧ (∀ w ∈ ws, 0 ≤ w ∧ w ≤ 100)) → sx_get h a = some (.inl (xs.map sz)) → xs.length = C.ks.length → (20 ≤ c ∧ c + 7 ≤ a) → (C.nc ≤ 6 ∧ C.nr ≤ 5) → C.ru = 0 → (∀ j, j < k → xs.getD j 0 = C.ks.getD j 0) → (∀ j, k ≤ j → j < C.ks.length → C.ks.getD j 0 = -1) → h.1.length ≤ 70000 ∧ h.2 ≤ 70000 →
    sx_OK S 178 [some (.ref 0), some (.ref 2), some (.ref 17), some (.ref 18), some (.ref 19), some (.int (sz C.st)), some (.int (sz C.nc)), some (.int (sz C.nr)), some (.int (sz 1)), some (.ref a), some (.int (sz k)), l11, l12, l13, l14, l15, l16, l17, l18, l19, l20, l21, l22, l23, l24, l25, l26, l27, l28, l29, l30, l31, l32] h := by
  intro n
  induction n with
  | zero =>
    intro k h C xs l11 l12 l13 l14 l15 l16 l17 l18 l19 l20 l21 l22 l23 l24 l25 l26 l27 l28 l29 l30 l31 l32 hk hB hw ha hl hadd hdim hru hx1 hx2 hN
    have hC := (hB.cl (i := 0) ⟨by decide, rfl⟩).2.1
    have hn := hC.1
    have hn2 := hC.2.1
    have hlen : C.ks.length ≤ 30 := by rw [hC.2.2.1]; exact Nat.le_trans (Nat.mul_le_mul hdim.2 hdim.1) (by decide)
    have hxe : xs = C.ks := by
      refine List.ext_getElem hl fun j h1 h2 => ?_
      have := hx1 j (by omega)
      rw [List.getD_eq_getElem?_getD, List.getElem?_eq_getElem h1, List.getD_eq_getElem?_getD, List.getElem?_eq_getElem h2] at this
      exact this
    subst hxe
    have hL : sx_L1 h ws wl c a C 70000 := ⟨hB, hw, ha, hadd, hdim, hN.1, hN.2⟩
    have i0 := sx_ints_of (S := S) ha
    obtain ⟨v1, hv1, p1⟩ := m_in (S := S) (i := 3) (n := C.nc) (by omega) (by omega) (by omega)
    obtain ⟨v2, hv2, p2⟩ := m_in (S := S) (i := 4) (n := C.nr) (by omega) (by omega) (by omega)
    obtain ⟨v3, hv3, p3⟩ := m_in (S := S) (i := 5) (n := 25) (by omega) (by omega) (by omega)
    obtain ⟨w, hw0⟩ : ∃ w : Nat, 1 + v1 = w := ⟨(1 + v1).toNat, by omega⟩
    obtain ⟨v, hv0⟩ : ∃ v : Nat, 1 + v2 = v := ⟨(1 + v2).toNat, by omega⟩
    have nx := L_C (l15 := l15) (l16 := l16) (l17 := l17) (l18 := l18) (l19 := l19) (l20 := l20) (l21 := l21) (l22 := l22) (l23 := l23) (l24 := l24) (l25 := l25) (l26 := l26) (l27 := l27) (l28 := l28) (l29 := l29) (l30 := l30) (l31 := l31) (l32 := l32) hS hL (by omega) hru (w := w) (v := v) (s := v3 - 12) (by omega) (by omega) (by omega) (w * v) 0 (Nat.zero_add _)
    unfold sx_OK at nx ⊢
    rw [h121_178]
    simp (maxSteps := 2000000) (disch := omega) only [e121_180, e121_182, e121_183, e121_186, e121_188, e121_190, e121_191, e121_193, e121_195, e121_196, e121_198, e121_201, e121_204, e121_205, e121_208, e121_209, e121_211, e121_213, e121_214, e121_215, e121_218, e121_219, e121_221, e121_222, e121_223, e121_225, e121_227, e121_228, e121_230, e121_232, e121_233, e121_235, e121_237, e121_238, e121_241, e121_242, e121_245, e121_246, e121_249, e121_250, e121_251, e121_253, e121_256, e121_259, e121_260, e121_261, e121_262, e121_264, e121_267, e121_268, e121_270, e121_271, e121_272, e121_273, e121_275, e121_278, e121_279, e121_281, e121_282, e121_283, e121_285, e121_288, e121_290, e121_291, e121_293, e121_294, e121_296, e121_297, i0, p1, p2, p3, hw0, hv0, Option.bind_some, sz_lt0, sz_lt, sz_0lt, sz_mul, sz_add, sz_sub, sz_eq0, sz_eq, sz_nat, List.length_map, nb0, nb1, bz_eq0, ↓reduceIte, Int.reduceEq, Int.reduceLT, Int.reduceAdd, Int.reduceSub, Int.reduceMul, Int.reduceNeg]
    rw [if_neg (by omega)]
    exact nx
  | succ n ih =>
    intro k h C xs l11 l12 l13 l14 l15 l16 l17 l18 l19 l20 l21 l22 l23 l24 l25 l26 l27 l28 l29 l30 l31 l32 hk hB hw ha hl hadd hdim hru hx1 hx2 hN
    have hC := (hB.cl (i := 0) ⟨by decide, rfl⟩).2.1
    have hn := hC.1
    have hlen : C.ks.length ≤ 30 := by rw [hC.2.2.1]; exact Nat.le_trans (Nat.mul_le_mul hdim.2 hdim.1) (by decide)
    have hkl : k < C.ks.length := by omega
    have hk1 : (k : Int) + 1 = ((k + 1 : Nat) : Int) := by omega
    have hkm : k % C.nc < C.nc := Nat.mod_lt _ (by omega)
    have hkd : k / C.nc < C.nr := Nat.div_lt_of_lt_mul (by rw [Nat.mul_comm, ← hC.2.2.1]; omega)
    have hkd0 : (0 : Int) ≤ ((k / C.nc : Nat) : Int) := Int.natCast_nonneg _
    have d1 := nat_tdiv k C.nc
    have d2 := nat_tmod k C.nc
    have hidx : ((k / C.nc : Nat) : Int) * C.nc + ((k % C.nc : Nat) : Int) = k := by omega
    have hz : ((C.nc : Int) = 0) = False := eq_false (by omega)
    have i0 := sx_ints_of (S := S) ha
    have klt : ((k : Int) < xs.length) = True := eq_true (by omega)
    obtain ⟨u, hu, p1⟩ := m_in (S := S) (i := 10 + k) (n := 9) (by omega) (by omega) (by omega)
    obtain ⟨v, hv, p2⟩ := m_in (S := S) (i := 50 + k) (n := 4) (by omega) (by omega) (by omega)
    have step : ∀ z : Int, -1 ≤ z ∧ z < 4 → ∃ (h1 h2 : sx_H), sx_wr h a (sz k) (sz z) = some h1 ∧ sx_rd S h1 a (sz k) = some (sz z) ∧ sx_Cl S 101 [.ref 2, .int (sz 0), .int (sz ((k / C.nc : Nat) : Int)), .int (sz ((k % C.nc : Nat) : Int)), .int (sz z)] h1 = some (.inl (some (.int (sz (-1)))), h2) ∧
        ∀ l11 l12 l13 l14 l15 l16 l17 l18 l19 l20 l21 l22 l23 l24 l25 l26 l27 l28 l29 l30 l31 l32, sx_OK S 178 [some (.ref 0), some (.ref 2), some (.ref 17), some (.ref 18), some (.ref 19), some (.int (sz C.st)), some (.int (sz C.nc)), some (.int (sz C.nr)), some (.int (sz 1)), some (.ref a), some (.int (sz ((k + 1 : Nat) : Int))), l11, l12, l13, l14, l15, l16, l17, l18, l19, l20, l21, l22, l23, l24, l25, l26, l27, l28, l29, l30, l31, l32] h2 := by
      intro z hzb
      obtain ⟨h1, q1, q2, g1⟩ := sx_wi (x := (k : Int)) (v := z) ha (by omega) (by omega)
      rw [show (k : Int).toNat = k by omega] at q2
      have rd := sx_rd_of (S := S) (x := (k : Int)) q2 (by rw [List.length_set]; omega) (by rw [List.length_set]; omega)
      rw [show (k : Int).toNat = k by omega, sx_getD_set _ _ _ _ (by omega), if_pos rfl] at rd
      have B1 : sx_BV h1 4 9999 ws [(c, C)] := hB.keep g1.1 (fun x hx (q : x = a) => by omega) (fun i d D hi x h1 h2 (q : x = a) => by
        match i, hi with
        | 0, hi => cases hi; omega
        | i + 1, hi => simp at hi)
      obtain ⟨h2, p3, B2, g2⟩ := w_draw (S := S) B1 (i := 0) (c := c) (C := C) ⟨by decide, rfl⟩ (r := ((k / C.nc : Nat) : Int)) (x := ((k % C.nc : Nat) : Int)) (k := z) (by omega) (by omega) hzb
      rw [hidx, kk_k hkl, hx2 k (Nat.le_refl _) hkl] at p3
      rw [hidx] at B2
      have B2 : sx_BV h2 4 9999 ws [(c, C.set (k : Int) z)] := B2
      have hls : (C.set (k : Int) z).ks.length = C.ks.length := List.length_set
      refine ⟨h1, h2, q1, rd, p3, fun l11 l12 l13 l14 l15 l16 l17 l18 l19 l20 l21 l22 l23 l24 l25 l26 l27 l28 l29 l30 l31 l32 => ?_⟩
      exact @ih (k + 1) h2 (C.set (k : Int) z) (xs.set k z) l11 l12 l13 l14 l15 l16 l17 l18 l19 l20 l21 l22 l23 l24 l25 l26 l27 l28 l29 l30 l31 l32 (by rw [hls]; omega) B2 ⟨g2.1.2.2 _ _ (by omega) (g1.1.2.2 _ _ (by omega) hw.1), hw.2⟩ (g2.1.2.2 _ _ (by omega) q2) (by rw [List.length_set, hls]; exact hl) hadd hdim hru
        (fun j hj => by
          rw [sx_getD_set _ _ _ _ (by omega), ks_set (by omega)]
          by_cases y : k = j
          · rw [if_pos y, if_pos y]
          · rw [if_neg y, if_neg y]; exact hx1 j (by omega))
        (fun j h1 h2 => by
          rw [hls] at h2
          rw [ks_set (by omega), if_neg (by omega)]
          exact hx2 j (by omega) h2)
        ⟨by rw [g2.2.1, g1.2.1]; omega, by rw [g2.2.2, g1.2.2]; omega⟩
    by_cases hu0 : u = 0
    · obtain ⟨h1, h2, q1, rd, p3, nx⟩ := step (-1) (by omega)
      have ku : (u = 0) = True := eq_true hu0
      unfold sx_OK at nx ⊢
      rw [h121_178]
      simp (maxSteps := 2000000) (disch := omega) only [e121_180, e121_182, e121_183, e121_186, e121_188, e121_190, e121_191, e121_193, e121_195, e121_196, e121_198, e121_201, e121_204, e121_205, e121_208, e121_209, e121_211, e121_213, e121_214, e121_215, e121_218, e121_219, e121_221, e121_222, e121_223, e121_225, e121_227, e121_228, e121_230, e121_232, e121_233, e121_235, e121_237, e121_238, e121_241, e121_242, e121_245, e121_246, e121_249, e121_250, e121_251, e121_253, e121_256, i0, klt, p1, ku, q1, sz_tdiv, d1, d2, hz, rd, p3, sz_and11, hk1, Option.bind_some, sz_lt0, sz_lt, sz_0lt, sz_mul, sz_add, sz_sub, sz_eq0, sz_eq, sz_nat, List.length_map, nb0, nb1, bz_eq0, ↓reduceIte, Int.reduceEq, Int.reduceLT, Int.reduceAdd, Int.reduceSub, Int.reduceMul, Int.reduceNeg]
      exact nx _ _ _ _ _ _ _ _ _ _ _ _ _ _ _ _ _ _ _ _ _ _
    · obtain ⟨h1, h2, q1, rd, p3, nx⟩ := step v (by omega)
      have ku : (u = 0) = False := eq_false hu0
      unfold sx_OK at nx ⊢
      rw [h121_178]
      simp (maxSteps := 2000000) (disch := omega) only [e121_180, e121_182, e121_183, e121_186, e121_188, e121_190, e121_191, e121_193, e121_195, e121_196, e121_198, e121_201, e121_204, e121_205, e121_208, e121_209, e121_211, e121_213, e121_214, e121_215, e121_218, e121_219, e121_221, e121_222, e121_223, e121_225, e121_227, e121_228, e121_230, e121_232, e121_233, e121_235, e121_237, e121_238, e121_241, e121_242, e121_245, e121_246, e121_249, e121_250, e121_251, e121_253, e121_256, i0, klt, p1, ku, p2, q1, sz_tdiv, d1, d2, hz, rd, p3, sz_and11, hk1, Option.bind_some, sz_lt0, sz_lt, sz_0lt, sz_mul, sz_add, sz_sub, sz_eq0, sz_eq, sz_nat, List.length_map, nb0, nb1, bz_eq0, ↓reduceIte, Int.reduceEq, Int.reduceLT, Int.reduceAdd, Int.reduceSub, Int.reduceMul, Int.reduceNeg]
      exact nx _ _ _ _ _ _ _ _ _ _ _ _ _ _ _ _ _ _ _ _ _ _
theorem stitch_in {v : Int} (hv : 0 ≤ v ∧ v < 3) : ∃ st : Int, (st = 108 ∨ st = 112 ∨ st = 98) ∧ (sz v < 0) = False ∧ (3 ≤ (sz v).toNatClampNeg) = False ∧ ([108, 112, 98] : List Int32).getD (sz v).toNatClampNeg 0 = sz st := by
  rcases (show v = 0 ∨ v = 1 ∨ v = 2 by omega) with q | q | q <;> subst q
  · exact ⟨108, by omega, eq_false (by decide), eq_false (by decide), by decide⟩
  · exact ⟨112, by omega, eq_false (by decide), eq_false (by decide), by decide⟩
  · exact ⟨98, by omega, eq_false (by decide), eq_false (by decide), by decide⟩
theorem L_A (hS : S.length ≤ 260) : sx_OK S 0 (some (.ref 0) :: List.replicate 32 none) ([], 0) := by
  -- the workshop
  have eN : sx_N 6 = 12 := rfl
  have x0 : sx_get (sx_push ([], 0) (some (.inr (.inr (6, sx_df 6)))) 12) 2 = some (.inr (.inr (6, sx_df 6))) := rfl
  have n0 : sx_new (sx_push ([], 0) (some (.inr (.inr (6, sx_df 6)))) 12) = 3 := rfl
  have nn : sx_new (([], 0) : sx_H) = 2 := rfl
  obtain ⟨h1, p1, B1, g1⟩ := m_bead_i (S := S) x0 n0
  have gz : sx_gr (fun _ => False) 1 12 (([], 0) : sx_H) (sx_push ([], 0) (some (.inr (.inr (6, sx_df 6)))) 12) := sx_gr.push _ _ _
  generalize hh0 : sx_push (([], 0) : sx_H) (some (.inr (.inr (6, sx_df 6)))) 12 = h0 at *
  have n1 : sx_new h1 = 17 := by rw [g1.nw, n0]
  -- three arrays
  have r4 : List.replicate 4 (0 : Int32) = (List.replicate 4 (0 : Int)).map sz := sx_repl 4
  have a2 : sx_gr (fun x => 17 ≤ x) 1 4 h1 (sx_push h1 (some (.inl (List.replicate 4 0))) 4) := sx_gr.push _ _ _
  have y2 : sx_get (sx_push h1 (some (.inl (List.replicate 4 0))) 4) 17 = some (.inl (List.replicate 4 0)) := n1 ▸ sx_get_new
  generalize hh2 : sx_push h1 (some (.inl (List.replicate 4 0))) 4 = h2 at *
  have n2 : sx_new h2 = 18 := by rw [a2.nw, n1]
  have a3 : sx_gr (fun x => 18 ≤ x) 1 4 h2 (sx_push h2 (some (.inl (List.replicate 4 0))) 4) := sx_gr.push _ _ _
  have y3 : sx_get (sx_push h2 (some (.inl (List.replicate 4 0))) 4) 18 = some (.inl (List.replicate 4 0)) := n2 ▸ sx_get_new
  generalize hh3 : sx_push h2 (some (.inl (List.replicate 4 0))) 4 = h3 at *
  have n3 : sx_new h3 = 19 := by rw [a3.nw, n2]
  have a4 : sx_gr (fun x => 19 ≤ x) 1 4 h3 (sx_push h3 (some (.inl (List.replicate 4 0))) 4) := sx_gr.push _ _ _
  have y4 : sx_get (sx_push h3 (some (.inl (List.replicate 4 0))) 4) 19 = some (.inl (List.replicate 4 0)) := n3 ▸ sx_get_new
  generalize hh4 : sx_push h3 (some (.inl (List.replicate 4 0))) 4 = h4 at *
  have n4 : sx_new h4 = 20 := by rw [a4.nw, n3]
  have a24 : sx_gr (fun x => 17 ≤ x) 3 12 h1 h4 := a2.trans ((a3.mono fun x (q : 18 ≤ x) => by omega).trans (a4.mono fun x (q : 19 ≤ x) => by omega))
  have B4 : sx_BV h4 0 0 (List.replicate 8 0) [] := B1.keep a24.1 (fun x hx (q : 17 ≤ x) => by omega) (fun i d D hi => by simp at hi)
  have z17 := a4.1.2.2 17 _ (by omega) (a3.1.2.2 17 _ (by omega) y2)
  have z18 := a4.1.2.2 18 _ (by omega) y3
  -- the script's numbers
  obtain ⟨v0, hv0, q0⟩ := m_in (S := S) (i := 0) (n := 3) (by omega) (by omega) (by omega)
  obtain ⟨st, hst, s1, s2, s3⟩ := stitch_in hv0
  obtain ⟨v1, hv1, q1⟩ := m_in (S := S) (i := 1) (n := 5) (by omega) (by omega) (by omega)
  obtain ⟨v2, hv2, q2⟩ := m_in (S := S) (i := 2) (n := 5) (by omega) (by omega) (by omega)
  obtain ⟨nc, hnc⟩ : ∃ nc : Nat, 2 + v1 = nc := ⟨(2 + v1).toNat, by omega⟩
  obtain ⟨nr, hnr⟩ : ∃ nr : Nat, 1 + v2 = nr := ⟨(1 + v2).toNat, by omega⟩
  -- what is refused
  have w5 := w_addCloth_x (S := S) B4 (u := 2) (v := 2)
  have B5 := B4.exc
  have g5 : sx_gr (fun x => 100 ≤ x) 1 6 h4 (sx_push h4 none 6) := sx_gr.push _ _ _
  generalize hh5 : sx_push h4 none 6 = h5 at *
  have w6 := w_addCloth_1 (S := S) B5 (v := 2)
  have B6 := B5.exc
  have g6 : sx_gr (fun x => 100 ≤ x) 1 6 h5 (sx_push h5 none 6) := sx_gr.push _ _ _
  generalize hh6 : sx_push h5 none 6 = h6 at *
  have w7 := w_kindAt_no (S := S) B6 (i := 0) (r := 0) (x := 0) ⟨by decide, by decide⟩
  have B7 := B6.exc
  have g7 : sx_gr (fun x => 100 ≤ x) 1 6 h6 (sx_push h6 none 6) := sx_gr.push _ _ _
  generalize hh7 : sx_push h6 none 6 = h7 at *
  have g57 := g5.trans (g6.trans g7)
  have n7 : sx_new h7 = 23 := by rw [g57.nw, n4]
  -- the kinds
  obtain ⟨h8, ws, wl, p8, B8, x8, l8, e8, b8, b8', g8⟩ := m_makes (S := S) hS B7 (by rw [← r4]; exact g57.1.2.2 _ _ (by decide) z17) (by rw [← r4]; exact g57.1.2.2 _ _ (by decide) z18) (by rw [← r4]; exact g57.1.2.2 _ _ (by decide) y4) ⟨rfl, rfl, rfl⟩ (fun w hw => by rw [List.eq_of_mem_replicate hw]; decide) (fun w hw => by rw [List.eq_of_mem_replicate hw]; decide)
  have n8 : sx_new h8 = 23 := by rw [g8.nw, n7]
  -- the cloth
  obtain ⟨h9, p9, B9, g9⟩ := w_addCloth (S := S) B8 (by decide) (st := st) (nc := nc) (nr := nr) hst (by omega) (by omega)
  rw [n8] at B9
  have B9 : sx_BV h9 4 9999 ws [(23, Clo.neu st nc nr)] := B9
  have p9 : sx_Cl S 100 [.ref 2, .int (sz st), .int (sz nc), .int (sz nr)] h8 = some (.inl (some (.int (sz 0))), h9) := p9
  have n9 : sx_new h9 = 30 := by rw [g9.nw, n8]
  have wa := w_draw_place (S := S) B9 (i := 0) (c := 23) (C := Clo.neu st nc nr) ⟨by decide, rfl⟩ (r := nr) (x := 0) (k := 0) (by omega) (fun q => by have : (nr : Int) < nr := q.1.2; omega)
  have Ba := B9.exc
  have ga : sx_gr (fun x => 100 ≤ x) 1 6 h9 (sx_push h9 none 6) := sx_gr.push _ _ _
  generalize hha : sx_push h9 none 6 = ha at *
  have wb := w_draw_kind (S := S) Ba (i := 0) (c := 23) (C := Clo.neu st nc nr) ⟨by decide, rfl⟩ (r := 0) (x := 0) (k := 4) (by show (0 : Int) ≤ 0 ∧ (0 : Int) < nr; omega) (by show (0 : Int) ≤ 0 ∧ (0 : Int) < nc; omega) (by omega)
  have Bb := Ba.exc
  have gb : sx_gr (fun x => 100 ≤ x) 1 6 ha (sx_push ha none 6) := sx_gr.push _ _ _
  generalize hhb : sx_push ha none 6 = hb at *
  have wc := w_addKind_no (S := S) (v := 8) (w := 2) (z := 0) Bb (u := 8) (by omega)
  have Bc := Bb.exc
  have gc : sx_gr (fun x => 100 ≤ x) 1 6 hb (sx_push hb none 6) := sx_gr.push _ _ _
  generalize hhc : sx_push hb none 6 = hc at *
  have gac := ga.trans (gb.trans gc)
  have nc' : sx_new hc = 33 := by rw [gac.nw, n9]
  -- the cells
  have hmul : (nc : Int) * nr = ((nc * nr : Nat) : Int) := (Int.natCast_mul _ _).symm
  have hm30 : nc * nr ≤ 30 := Nat.le_trans (Nat.mul_le_mul (show nc ≤ 6 by omega) (show nr ≤ 5 by omega)) (by decide)
  have gd : sx_gr (fun x => 33 ≤ x) 1 (nc * nr) hc (sx_push hc (some (.inl (List.replicate (nc * nr) 0))) (nc * nr)) := sx_gr.push _ _ _
  have xd : sx_get (sx_push hc (some (.inl (List.replicate (nc * nr) 0))) (nc * nr)) 33 = some (.inl (List.replicate (nc * nr) 0)) := nc' ▸ sx_get_new
  generalize hhd : sx_push hc (some (.inl (List.replicate (nc * nr) 0))) (nc * nr) = hd at *
  rw [sx_repl] at xd
  have tl : (sz ((nc * nr : Nat) : Int)).toNatClampNeg = nc * nr := by rw [sz_clamp (by omega)]; omega
  have zl := sx_nwz (n := nc * nr) (by omega)
  have zi := sx_nwi (nc * nr)
  have t4 : (sz 4).toNatClampNeg = 4 := by decide
  have z4 := sx_nwz (n := 4) (by omega)
  have Bd : sx_BV hd 4 9999 ws [(23, Clo.neu st nc nr)] := Bc.keep gd.1 (fun x hx (q : 33 ≤ x) => by omega) (fun i d D hi x u1 u2 (q : 33 ≤ x) => by
    match i, hi with
    | 0, hi => cases hi; omega
    | i + 1, hi => simp at hi)
  have xw : sx_get hd 17 = some (.inl (wl.map sz)) := gd.1.2.2 _ _ (by decide) (gac.1.2.2 _ _ (by decide) (g9.1.2.2 _ _ (by decide) x8))
  have hks : (Clo.neu st nc nr).ks.length = nr * nc := List.length_replicate
  have hl1 : hd.1.length = 33 - 1 := by
    have e1 := gz.2.1
    have e2 := g1.2.1
    have e3 := a24.2.1
    have e4 := g57.2.1
    have e5 := g8.2.1
    have e6 := g9.2.1
    have e7 := gac.2.1
    have e8 := gd.2.1
    have e0 : (([], 0) : sx_H).1.length = 0 := rfl
    omega
  have hl2 : hd.2 ≤ 70000 := by
    have e1 := gz.2.2
    have e2 := g1.2.2
    have e3 := a24.2.2
    have e4 := g57.2.2
    have e5 := g8.2.2
    have e6 := g9.2.2
    have e7 := gac.2.2
    have e8 := gd.2.2
    have e0 : (([], 0) : sx_H).2 = 0 := rfl
    have e9 : 2 * nc * nr = 2 * (nc * nr) := Nat.mul_assoc _ _ _
    omega
  have nx : ∀ l11 l12 l13 l14 l15 l16 l17 l18 l19 l20 l21 l22 l23 l24 l25 l26 l27 l28 l29 l30 l31 l32, sx_OK S 178 [some (.ref 0), some (.ref 2), some (.ref 17), some (.ref 18), some (.ref 19), some (.int (sz st)), some (.int (sz nc)), some (.int (sz nr)), some (.int (sz 1)), some (.ref 33), some (.int (sz ((0 : Nat) : Int))), l11, l12, l13, l14, l15, l16, l17, l18, l19, l20, l21, l22, l23, l24, l25, l26, l27, l28, l29, l30, l31, l32] hd := fun l11 l12 l13 l14 l15 l16 l17 l18 l19 l20 l21 l22 l23 l24 l25 l26 l27 l28 l29 l30 l31 l32 =>
    L_B (c := 23) (a := 33) (wl := wl) (ws := ws) hS (nr * nc) 0 hd (Clo.neu st nc nr) (List.replicate (nc * nr) 0) (by rw [hks, Nat.zero_add]) Bd ⟨xw, l8, e8, b8⟩ xd (by rw [List.length_replicate, hks, Nat.mul_comm]) (by omega) (by show nc ≤ 6 ∧ nr ≤ 5; omega) rfl (fun j hj => by omega) (fun j _ hj => neu_kk _ _ _ _ (by rw [← hks]; exact hj)) ⟨by omega, hl2⟩
  unfold sx_OK at nx ⊢
  rw [show (some (Value.ref 0) :: List.replicate 32 none : sx_L) = [some (.ref 0), none, none, none, none, none, none, none, none, none, none, none, none, none, none, none, none, none, none, none, none, none, none, none, none, none, none, none, none, none, none, none, none] from rfl]
  simp (maxSteps := 2000000) (disch := omega) only [e121_0, e121_3, e121_4, e121_7, e121_8, e121_9, e121_11, e121_12, e121_13, e121_15, e121_16, e121_17, e121_19, e121_21, e121_23, e121_24, e121_25, e121_26, e121_29, e121_32, e121_34, e121_35, e121_36, e121_37, e121_38, e121_41, e121_42, e121_44, e121_45, e121_46, e121_47, e121_48, e121_51, e121_52, e121_54, e121_55, e121_57, e121_58, e121_59, e121_62, e121_64, e121_67, e121_68, e121_70, e121_71, e121_72, e121_75, e121_77, e121_80, e121_81, e121_82, e121_83, e121_84, e121_87, e121_89, e121_92, e121_93, e121_94, e121_95, e121_96, e121_98, e121_101, e121_104, e121_105, e121_107, e121_109, e121_111, e121_114, e121_117, e121_118, e121_119, e121_121, e121_122, e121_123, e121_126, e121_128, e121_131, e121_132, e121_133, e121_134, e121_135, e121_136, e121_139, e121_141, e121_144, e121_145, e121_147, e121_149, e121_150, e121_151, e121_154, e121_156, e121_159, e121_160, e121_163, e121_164, e121_166, e121_168, e121_170, e121_171, e121_173, e121_175, e121_176, eN, hh0, nn, p1, t4, z4, or_false, n1, hh2, n2, hh3, n3, hh4, q0, s1, s2, s3, q1, hnc, q2, hnr, w5, w6, w7, p8, p9, wa, wb, wc, hmul, tl, zl, zi, nc', hhd, eq_self, Option.bind_some, sz_lt0, sz_lt, sz_0lt, sz_mul, sz_add, sz_sub, sz_eq0, sz_eq, sz_nat, List.length_map, nb0, nb1, bz_eq0, ↓reduceIte, Int.reduceEq, Int.reduceLT, Int.reduceAdd, Int.reduceSub, Int.reduceMul, Int.reduceNeg]
  exact nx _ _ _ _ _ _ _ _ _ _ _ _ _ _ _ _ _ _ _ _ _ _
end SXAA
