/-! A NEW CLOTH -/
theorem sx_getD_set (xs : List Int) (i j : Nat) (v : Int) (hi : i < xs.length) : (xs.set i v).getD j 0 = if i = j then v else xs.getD j 0 := by
  rw [List.getD_eq_getElem?_getD, List.getElem?_set]
  by_cases q : i = j
  · subst q
    rw [if_pos rfl, if_pos (by omega), if_pos rfl]
    rfl
  · rw [if_neg q, if_neg q, ← List.getD_eq_getElem?_getD]
/-- the fields of a cloth as it is made -/
def sx_cf (K P p q g s : Nat) (st : Int) (nc nr : Nat) : List Value := [.ref K, .int (sz st), .int (sz nc), .int (sz nr), .ref P, .ref p, .ref q, .ref g, .ref s, .int (sz 100), .int (sz 0)]
section SXR
variable {S : List Int32} {K c P X L p q g s nc nr : Nat} {st : Int}
theorem m_fill_l (hpq : p ≠ q ∧ p ≠ g ∧ q ≠ g) {m : Nat} (hm : m ≤ 144) (l7 : Option Value) : ∀ (n i : Nat) (xs : List Int) (h : sx_H), sx_get h c = some (.inr (.inr (0, sx_cf K P p q g s st nc nr))) → sx_get h p = some (.inl (xs.map sz)) → sx_get h q = some (.inl (xs.map sz)) → sx_get h g = some (.inl (xs.map sz)) → xs.length = m → (∀ j, j < i → xs.getD j 0 = -1) → i + n = m →
    ∃ h', sx_Ev S 23 98 [some (.ref c), some (.ref K), some (.int (sz st)), some (.int (sz nc)), some (.int (sz nr)), some (.int (sz m)), some (.int (sz i)), l7] [] h = sx_Ev S 23 138 [some (.ref c), some (.ref K), some (.int (sz st)), some (.int (sz nc)), some (.int (sz nr)), some (.int (sz m)), some (.int (sz 0)), l7] [] h' ∧ sx_get h' p = some (.inl ((List.replicate m (-1 : Int)).map sz)) ∧ sx_get h' q = some (.inl ((List.replicate m (-1 : Int)).map sz)) ∧ sx_gr (fun a => a = p ∨ a = q ∨ a = g) 0 0 h h' := by
  intro n
  induction n with
  | zero =>
    intro i xs h hc hp hq hg hl hx hi
    have e : xs = List.replicate m (-1) := by
      refine List.ext_getElem (by rw [hl, List.length_replicate]) fun j h1 h2 => ?_
      have := hx j (by omega)
      rw [List.getD_eq_getElem?_getD, List.getElem?_eq_getElem h1] at this
      rw [List.getElem_replicate]
      exact this
    refine ⟨h, ?_, by rw [hp, e], by rw [hq, e], sx_gr.refl h⟩
    rw [h23_98]
    simp (disch := omega) only [q23_0, q23_1, Option.bind_some, sz_lt0, sz_lt, sz_0lt, sz_mul, sz_add, sz_sub, sz_eq0, sz_eq, sz_nat, List.length_map, nb0, nb1, bz_eq0, ↓reduceIte, Int.reduceEq, Int.reduceLT, Int.reduceAdd, Int.reduceSub, Int.reduceMul, Int.reduceNeg]
    rw [if_neg (by omega)]
  | succ n ih =>
    intro i xs h hc hp hq hg hl hx hi
    have hcp : p ≠ c := (sx_get_ne hc hp (by intro q; cases q)).symm
    have hcq : q ≠ c := (sx_get_ne hc hq (by intro q; cases q)).symm
    have hcg : g ≠ c := (sx_get_ne hc hg (by intro q; cases q)).symm
    have p2 := (sx_get_lt hp).1
    have q2 := (sx_get_lt hq).1
    have g2 := (sx_get_lt hg).1
    have hi1 : (i : Int) + 1 = ((i + 1 : Nat) : Int) := by omega
    have f5 := sx_fld_of (f := 5) hc rfl
    have w1 := sx_wr_of (x := (i : Int)) (v := -1) hp (by omega) (by omega)
    rw [show (i : Int).toNat = i by omega] at w1
    generalize e1 : sx_set h p (.inl ((xs.set i (-1)).map sz)) = h1 at w1
    have hc1 : sx_get h1 c = some (.inr (.inr (0, sx_cf K P p q g s st nc nr))) := by rw [← e1]; exact sx_get_setn hc hcp p2
    have hp1 : sx_get h1 p = some (.inl ((xs.set i (-1)).map sz)) := by rw [← e1]; exact sx_get_set hp
    have hq1 : sx_get h1 q = some (.inl (xs.map sz)) := by rw [← e1]; exact sx_get_setn hq hpq.1 p2
    have hg1 : sx_get h1 g = some (.inl (xs.map sz)) := by rw [← e1]; exact sx_get_setn hg hpq.2.1 p2
    have f6 := sx_fld_of (f := 6) hc1 rfl
    have w2 := sx_wr_of (x := (i : Int)) (v := -1) hq1 (by omega) (by omega)
    rw [show (i : Int).toNat = i by omega] at w2
    generalize e2 : sx_set h1 q (.inl ((xs.set i (-1)).map sz)) = h2 at w2
    have hc2 : sx_get h2 c = some (.inr (.inr (0, sx_cf K P p q g s st nc nr))) := by rw [← e2]; exact sx_get_setn hc1 hcq q2
    have hp2 : sx_get h2 p = some (.inl ((xs.set i (-1)).map sz)) := by rw [← e2]; exact sx_get_setn hp1 hpq.1.symm q2
    have hq2 : sx_get h2 q = some (.inl ((xs.set i (-1)).map sz)) := by rw [← e2]; exact sx_get_set hq1
    have hg2 : sx_get h2 g = some (.inl (xs.map sz)) := by rw [← e2]; exact sx_get_setn hg1 hpq.2.2 q2
    have f7 := sx_fld_of (f := 7) hc2 rfl
    have w3 := sx_wr_of (x := (i : Int)) (v := -1) hg2 (by omega) (by omega)
    rw [show (i : Int).toNat = i by omega] at w3
    generalize e3 : sx_set h2 g (.inl ((xs.set i (-1)).map sz)) = h3 at w3
    have hc3 : sx_get h3 c = some (.inr (.inr (0, sx_cf K P p q g s st nc nr))) := by rw [← e3]; exact sx_get_setn hc2 hcg g2
    have hp3 : sx_get h3 p = some (.inl ((xs.set i (-1)).map sz)) := by rw [← e3]; exact sx_get_setn hp2 hpq.2.1.symm g2
    have hq3 : sx_get h3 q = some (.inl ((xs.set i (-1)).map sz)) := by rw [← e3]; exact sx_get_setn hq2 hpq.2.2.symm g2
    have hg3 : sx_get h3 g = some (.inl ((xs.set i (-1)).map sz)) := by rw [← e3]; exact sx_get_set hg2
    obtain ⟨h', r1, r2, r3, r4⟩ := ih (i + 1) (xs.set i (-1)) h3 hc3 hp3 hq3 hg3 (by rw [List.length_set]; exact hl) (fun j hj => by
      rw [sx_getD_set _ _ _ _ (by omega)]
      by_cases q : i = j
      · rw [if_pos q]
      · rw [if_neg q]; exact hx j (by omega)) (by omega)
    have z1 : sx_gr (fun a => a = p ∨ a = q ∨ a = g) 0 0 h h1 := by rw [← e1]; exact sx_gr.set hp (Or.inl rfl)
    have z2 : sx_gr (fun a => a = p ∨ a = q ∨ a = g) 0 0 h1 h2 := by rw [← e2]; exact sx_gr.set hq1 (Or.inr (Or.inl rfl))
    have z3 : sx_gr (fun a => a = p ∨ a = q ∨ a = g) 0 0 h2 h3 := by rw [← e3]; exact sx_gr.set hg2 (Or.inr (Or.inr rfl))
    refine ⟨h', ?_, r2, r3, z1.trans (z2.trans (z3.trans r4))⟩
    rw [h23_98]
    simp (disch := omega) only [q23_0, q23_1, f5, f6, f7, w1, w2, w3, hi1, Option.bind_some, sz_lt0, sz_lt, sz_0lt, sz_mul, sz_add, sz_sub, sz_eq0, sz_eq, sz_nat, List.length_map, nb0, nb1, bz_eq0, ↓reduceIte, Int.reduceEq, Int.reduceLT, Int.reduceAdd, Int.reduceSub, Int.reduceMul, Int.reduceNeg]
    rw [if_pos (by omega)]
    exact r1
theorem m_passesOf {h : sx_H} {zs : List Int} {fs : List Value} (hc : sx_get h c = some (.inr (.inr (0, fs)))) (hf : fs[8]? = some (.ref s)) (hs : sx_get h s = some (.inl (zs.map sz))) (hl : zs.length ≤ 144) {i : Int} (hi : -20000 ≤ i ∧ i ≤ 20000) : ∃ z : Int, sx_Cl S 21 [.ref c, .int (sz i)] h = some (.inl (some (.int (sz z))), h) := by
  have f8 := sx_fld_of (f := 8) hc hf
  have i0 := sx_ints_of (S := S) hs
  by_cases hin : 0 ≤ i ∧ i < zs.length
  · have w := sx_rd_of (S := S) (x := i) hs hin (by omega)
    refine ⟨zs.getD i.toNat 0, ?_⟩
    simp (disch := omega) only [c21_q, q21, f8, i0, Option.bind_some, sz_lt0, sz_lt, sz_0lt, sz_mul, sz_add, sz_sub, sz_eq0, sz_eq, sz_nat, List.length_map, nb0, nb1, bz_eq0, ↓reduceIte, Int.reduceEq, Int.reduceLT, Int.reduceAdd, Int.reduceSub, Int.reduceMul, Int.reduceNeg]
    rw [if_neg (by omega), if_pos (by omega), w]
    simp only [Option.bind_some, q21]
  · refine ⟨0, ?_⟩
    simp (disch := omega) only [c21_q, q21, f8, i0, Option.bind_some, sz_lt0, sz_lt, sz_0lt, sz_mul, sz_add, sz_sub, sz_eq0, sz_eq, sz_nat, List.length_map, nb0, nb1, bz_eq0, ↓reduceIte, Int.reduceEq, Int.reduceLT, Int.reduceAdd, Int.reduceSub, Int.reduceMul, Int.reduceNeg]
    repeat' split
    all_goals first | rfl | omega
theorem m_setPasses {h : sx_H} {zs : List Int} {fs : List Value} (hc : sx_get h c = some (.inr (.inr (0, fs)))) (hf : fs[8]? = some (.ref s)) (hs : sx_get h s = some (.inl (zs.map sz))) (hl : zs.length ≤ 144) {i z : Int} (hi : -20000 ≤ i ∧ i ≤ 20000) : ∃ (h' : sx_H) (zs' : List Int), sx_Cl S 22 [.ref c, .int (sz i), .int (sz z)] h = some (.inl none, h') ∧ sx_get h' s = some (.inl (zs'.map sz)) ∧ zs'.length = zs.length ∧ sx_gr (· = s) 0 0 h h' := by
  have f8 := sx_fld_of (f := 8) hc hf
  have i0 := sx_ints_of (S := S) hs
  by_cases hin : 0 ≤ i ∧ i < zs.length
  · have w := sx_wr_of (x := i) (v := z) hs hin (by omega)
    refine ⟨_, zs.set i.toNat z, ?_, sx_get_set hs, List.length_set, sx_gr.set (A := (· = s)) hs rfl⟩
    simp (disch := omega) only [c22_q, q22, f8, i0, Option.bind_some, sz_lt0, sz_lt, sz_0lt, sz_mul, sz_add, sz_sub, sz_eq0, sz_eq, sz_nat, List.length_map, nb0, nb1, bz_eq0, ↓reduceIte, Int.reduceEq, Int.reduceLT, Int.reduceAdd, Int.reduceSub, Int.reduceMul, Int.reduceNeg]
    rw [if_neg (by omega), if_pos (by omega), w]
    simp only [Option.bind_some, q22]
  · refine ⟨h, zs, ?_, hs, rfl, sx_gr.refl h⟩
    simp (disch := omega) only [c22_q, q22, f8, i0, Option.bind_some, sz_lt0, sz_lt, sz_0lt, sz_mul, sz_add, sz_sub, sz_eq0, sz_eq, sz_nat, List.length_map, nb0, nb1, bz_eq0, ↓reduceIte, Int.reduceEq, Int.reduceLT, Int.reduceAdd, Int.reduceSub, Int.reduceMul, Int.reduceNeg]
    repeat' split
    all_goals first | rfl | omega
theorem m_pass_l {m nn : Nat} (hm : m ≤ 144) (hnn : nn ≤ 1000) (l5 : Option Value) (hdist : c ≠ s ∧ P ≠ s ∧ X ≠ s) : ∀ (n i : Nat) (zs : List Int) (h : sx_H) (l7 : Option Value), sx_get h c = some (.inr (.inr (0, sx_cf K P p q g s st nc nr))) → sx_PV h P X L → sx_Cl S 19 [.ref P] h = some (.inl (some (.int (sz nn))), h) → sx_get h s = some (.inl (zs.map sz)) → zs.length = m → i + n = nn →
    ∃ h', sx_Ev S 23 138 [some (.ref c), some (.ref K), some (.int (sz st)), some (.int (sz nc)), some (.int (sz nr)), l5, some (.int (sz i)), l7] [] h = some (.inl none, h') ∧ sx_gr (· = s) 0 0 h h' := by
  intro n
  induction n with
  | zero =>
    intro i zs h l7 hc hP hlen hs hl hi
    have f4 := sx_fld_of (f := 4) hc rfl
    have fk := hP.k
    refine ⟨h, ?_, sx_gr.refl h⟩
    rw [h23_138]
    simp (disch := omega) only [q23_0, q23_1, f4, hlen, Option.bind_some, sz_lt0, sz_lt, sz_0lt, sz_mul, sz_add, sz_sub, sz_eq0, sz_eq, sz_nat, List.length_map, nb0, nb1, bz_eq0, ↓reduceIte, Int.reduceEq, Int.reduceLT, Int.reduceAdd, Int.reduceSub, Int.reduceMul, Int.reduceNeg]
    rw [if_neg (by omega)]
  | succ n ih =>
    intro i zs h l7 hc hP hlen hs hl hi
    have f4 := sx_fld_of (f := 4) hc rfl
    have fk := hP.k
    have fkc := sx_klass_of hc
    have hi1 : (i : Int) + 1 = ((i + 1 : Nat) : Int) := by omega
    obtain ⟨-, -, -, hcell⟩ := m_len (S := S) hP
    obtain ⟨y, hy, ey⟩ := hcell i
    have ey := ey (by omega)
    obtain ⟨z, ez⟩ := m_passesOf (S := S) hc rfl hs (by omega) (i := y) hy
    obtain ⟨h1, zs', e1, s1, l1, g1⟩ := m_setPasses (S := S) hc rfl hs (by omega) (i := y) (z := z + 1) hy
    have hP1 : sx_PV h1 P X L := hP.kp g1.1 hdist.2.1 hdist.2.2
    have hlen1 : sx_Cl S 19 [.ref P] h1 = some (.inl (some (.int (sz nn))), h1) := by
      obtain ⟨-, n0, ys, hn0, -, -, w1, -⟩ := id hP
      have v1 := sx_fld_of (f := 1) w1 rfl
      have v2 := sx_fld_of (f := 1) (g1.1.2.2 _ _ hdist.2.1 w1) rfl
      have hh := hlen
      simp (disch := omega) only [c19_q, q19, v1, Option.bind_some, sz_lt0, sz_lt, sz_0lt, sz_mul, sz_add, sz_sub, sz_eq0, sz_eq, sz_nat, List.length_map, nb0, nb1, bz_eq0, ↓reduceIte, Int.reduceEq, Int.reduceLT, Int.reduceAdd, Int.reduceSub, Int.reduceMul, Int.reduceNeg] at hh
      simp (disch := omega) only [c19_q, q19, v2, Option.bind_some, sz_lt0, sz_lt, sz_0lt, sz_mul, sz_add, sz_sub, sz_eq0, sz_eq, sz_nat, List.length_map, nb0, nb1, bz_eq0, ↓reduceIte, Int.reduceEq, Int.reduceLT, Int.reduceAdd, Int.reduceSub, Int.reduceMul, Int.reduceNeg]
      simp only [Option.some.injEq, Prod.mk.injEq, Sum.inl.injEq, and_true] at hh ⊢
      exact hh
    obtain ⟨h', e2, g2⟩ := ih (i + 1) zs' h1 (some (.int (sz y))) (g1.1.2.2 _ _ hdist.1 hc) hP1 hlen1 s1 (by omega) (by omega)
    refine ⟨h', ?_, g1.trans g2⟩
    rw [h23_138]
    simp (disch := omega) only [q23_0, q23_1, f4, hlen, ey, ez, e1, hi1, Option.bind_some, sz_lt0, sz_lt, sz_0lt, sz_mul, sz_add, sz_sub, sz_eq0, sz_eq, sz_nat, List.length_map, nb0, nb1, bz_eq0, ↓reduceIte, Int.reduceEq, Int.reduceLT, Int.reduceAdd, Int.reduceSub, Int.reduceMul, Int.reduceNeg]
    rw [if_pos (by omega)]
    exact e2
theorem m_cloth_i {h : sx_H} (hst : st = 108 ∨ st = 112 ∨ st = 98) (hnc : 2 ≤ nc ∧ nc ≤ 12) (hnr : 1 ≤ nr ∧ nr ≤ 12) (hcn : sx_new h = c + 1) (hK : K < c) (e : sx_get h c = some (.inr (.inr (0, sx_df 0)))) : ∃ h', sx_Cl S 23 [.ref c, .ref K, .int (sz st), .int (sz nc), .int (sz nr)] h = some (.inl none, h') ∧
    sx_CV h' K c (c + 3) (c + 4) (st, nc, nr, List.replicate (nr * nc) (-1), 0) ∧ sx_gr (· = c) 6 (2 + 2 * nc * nr + 4 * (nc * nr)) h h' := by
  have hm := mulN_bd hnc.2 hnr.2
  have hm3 : 1 ≤ nc * nr := Nat.mul_pos (by omega) hnr.1
  obtain ⟨h1, e1, x1, g1⟩ := sx_pf (f := 9) (v := .int (sz 100)) e (by exact (by decide : (9:Nat) < 11))
  obtain ⟨h2, e2, x2, g2⟩ := sx_pf (f := 0) (v := .ref K) x1 (by exact (by decide : (0:Nat) < 11))
  obtain ⟨h3, e3, x3, g3⟩ := sx_pf (f := 1) (v := .int (sz st)) x2 (by exact (by decide : (1:Nat) < 11))
  obtain ⟨h4, e4, x4, g4⟩ := sx_pf (f := 2) (v := .int (sz nc)) x3 (by exact (by decide : (2:Nat) < 11))
  obtain ⟨h5, e5, x5, g5⟩ := sx_pf (f := 3) (v := .int (sz nr)) x4 (by exact (by decide : (3:Nat) < 11))
  have n5 := (g1.trans (g2.trans (g3.trans (g4.trans g5)))).nw
  have hnew5 : sx_new h5 = c + 1 := by omega
  have gP : sx_gr (· = c) 1 2 h5 (sx_push h5 (some (.inr (.inr (3, sx_df 3)))) 2) := sx_gr.push h5 _ 2
  have xP : sx_get (sx_push h5 (some (.inr (.inr (3, sx_df 3)))) 2) (c + 1) = _ := hnew5 ▸ sx_get_new
  have x5' := sx_get_push (c := some (.inr (.inr (3, sx_df 3)))) (n := 2) x5
  have eN : sx_N 3 = 2 := rfl
  generalize hh5 : sx_push h5 (some (.inr (.inr (3, sx_df 3)))) 2 = h5' at *
  have n5' : sx_new h5' = c + 2 := by rw [gP.nw]; omega
  obtain ⟨h6, e6, p6, g6⟩ := m_path_i (S := S) (nc := nc) (nr := nr) hst ⟨by omega, hnc.2⟩ hnr xP
  rw [n5'] at p6
  have n6 : sx_new h6 = c + 3 := by rw [g6.nw]; omega
  have x6 := g6.1.2.2 _ _ (by show ¬ c = c + 1; omega) x5'
  obtain ⟨h7, e7, x7, g7⟩ := sx_pf (f := 4) (v := .ref (c + 1)) x6 (by exact (by decide : (4:Nat) < 11))
  have n7 : sx_new h7 = c + 3 := by rw [g7.nw]; omega
  have p7 : sx_PV h7 (c + 1) (c + 2) (2 * nc * nr) := p6.kp g7.1 (by omega) (by omega)
  obtain ⟨h8, e8, x8, y8, g8⟩ := sx_al (f := 5) (n := nc * nr) (c := .inl (List.replicate (nc * nr) 0)) x7 (by exact (by decide : (5:Nat) < 11))
  have n8 : sx_new h8 = c + 4 := by rw [g8.nw]; omega
  obtain ⟨h9, e9, x9, y9, g9⟩ := sx_al (f := 6) (n := nc * nr) (c := .inl (List.replicate (nc * nr) 0)) x8 (by exact (by decide : (6:Nat) < 11))
  have n9 : sx_new h9 = c + 5 := by rw [g9.nw]; omega
  obtain ⟨ha, ea, xa, ya, ga⟩ := sx_al (f := 7) (n := nc * nr) (c := .inl (List.replicate (nc * nr) 0)) x9 (by exact (by decide : (7:Nat) < 11))
  have na : sx_new ha = c + 6 := by rw [ga.nw]; omega
  obtain ⟨hb, eb, xb, yb, gb⟩ := sx_al (f := 8) (n := nc * nr) (c := .inl (List.replicate (nc * nr) 0)) xa (by exact (by decide : (8:Nat) < 11))
  have p8 := p7.kp g8.1 (by omega) (by omega)
  have p9 := p8.kp g9.1 (by omega) (by omega)
  have pa := p9.kp ga.1 (by omega) (by omega)
  have pb := pa.kp gb.1 (by omega) (by omega)
  rw [n7] at y8
  rw [n8] at y9
  rw [n9] at ya
  rw [na] at yb
  have y8b := gb.1.2.2 _ _ (by omega) (ga.1.2.2 _ _ (by omega) (g9.1.2.2 _ _ (by omega) y8))
  have y9b := gb.1.2.2 _ _ (by omega) (ga.1.2.2 _ _ (by omega) y9)
  have yab := gb.1.2.2 _ _ (by omega) ya
  rw [sx_repl] at y8b y9b yab yb
  have xb' : sx_get hb c = some (.inr (.inr (0, sx_cf K (c + 1) (c + 3) (c + 4) (c + 5) (c + 6) st nc nr))) := by
    rw [xb, n7, n8, n9, na]
    rfl
  obtain ⟨hd, ed, xd, yd, gd⟩ := m_fill_l (S := S) (p := c + 3) (q := c + 4) (g := c + 5) (m := nc * nr) (by omega) hm none (nc * nr) 0 (List.replicate (nc * nr) 0) hb xb' y8b y9b yab List.length_replicate (fun j hj => by omega) (by omega)
  have pd := pb.kp gd.1 (by omega) (by omega)
  have xdc := gd.1.2.2 _ _ (by omega) xb'
  have yds := gd.1.2.2 _ _ (by omega) yb
  obtain ⟨nn, hnn, elen, -⟩ := m_len (S := S) pd
  have hL := pd.1
  obtain ⟨he, ee, ge⟩ := m_pass_l (S := S) (m := nc * nr) (nn := nn) hm (by omega) (some (.int (sz ((nc * nr : Nat) : Int)))) (by omega) nn 0 (List.replicate (nc * nr) 0) hd none xdc pd elen yds List.length_replicate (by omega)
  have z1 : (nc : Int) * nr = ((nc * nr : Nat) : Int) := by simp
  have fk5 := pd.k
  refine ⟨he, ?_, ⟨⟨hnc, hnr, ?_, ?_, ?_, hst⟩, ⟨_, _, _, ge.1.2.2 _ _ (by omega) xdc⟩, ?_, ?_⟩, ?_⟩
  · have nc1 : fits .char (.int (sz 100)) = true ∧ narrow .char (.int (sz 100)) = .int (sz 100) := ⟨rfl, rfl⟩
    have nc2 : fits .char (.int (sz st)) = true ∧ narrow .char (.int (sz st)) = .int (sz st) := by rcases hst with q | q | q <;> subst q <;> exact ⟨rfl, rfl⟩
    have w := sx_nwz (n := nc * nr) (by omega)
    have wi := sx_nwi (nc * nr)
    have t : (sz ((nc * nr : Nat) : Int)).toNatClampNeg = nc * nr := by rw [sz_clamp (by omega)]; omega
    simp (disch := omega) only [c23_q, q23_0, q23_1, e1, e2, e3, e4, e5, hnew5, eN, hh5, e6, e7, z1, t, w, wi, or_false, n7, n8, n9, na, Option.bind_some, sz_lt0, sz_lt, sz_0lt, sz_mul, sz_add, sz_sub, sz_eq0, sz_eq, sz_nat, List.length_map, nb0, nb1, bz_eq0, ↓reduceIte, Int.reduceEq, Int.reduceLT, Int.reduceAdd, Int.reduceSub, Int.reduceMul, Int.reduceNeg]
    rw [if_pos (by omega)]
    rw [n7] at e8
    rw [n8] at e9
    rw [n9] at ea
    rw [na] at eb
    simp (disch := omega) only [q23_0, q23_1, t, w, wi, or_false, n7, n8, n9, na, e8, e9, ea, eb, Option.bind_some, sz_lt0, sz_lt, sz_0lt, sz_mul, sz_add, sz_sub, sz_eq0, sz_eq, sz_nat, List.length_map, nb0, nb1, bz_eq0, ↓reduceIte, Int.reduceEq, Int.reduceLT, Int.reduceAdd, Int.reduceSub, Int.reduceMul, Int.reduceNeg]
    exact ed.trans ee
  · show (List.replicate (nr * nc) (-1 : Int)).length = nr * nc
    rw [List.length_replicate]
  · intro k hk
    rw [List.eq_of_mem_replicate (show k ∈ List.replicate (nr * nc) (-1 : Int) from hk)]
    omega
  · show (0 : Int) ≤ 0 ∧ (0 : Int) ≤ 15
    omega
  · show _ = some (Sum.inl ((List.replicate (nr * nc) (-1 : Int)).map sz))
    rw [Nat.mul_comm nr nc]
    exact ge.1.2.2 _ _ (by omega) xd
  · show _ = some (Sum.inl (((List.replicate (nr * nc) (-1 : Int)).map kcol).map sz))
    rw [Nat.mul_comm nr nc, List.map_replicate (f := kcol)]
    exact ge.1.2.2 _ _ (by omega) yd
  · have ga1 := (g1.trans (g2.trans (g3.trans (g4.trans g5)))).trans gP
    have ga2 : sx_gr (· = c) _ _ h h6 := sx_gr.of_new ((ga1.mono fun a q => Or.inl q).trans (g6.mono fun a q => Or.inr (by have q : a = c + 1 := q; omega)))
    have ga3 := ga2.trans (g7.trans (g8.trans (g9.trans (ga.trans gb))))
    have ga4 : sx_gr (· = c) _ _ h hd := sx_gr.of_new ((ga3.mono fun a q => Or.inl q).trans (gd.mono fun a q => Or.inr (by omega)))
    have ga5 : sx_gr (· = c) _ _ h he := sx_gr.of_new ((ga4.mono fun a q => Or.inl q).trans (ge.mono fun a q => Or.inr (by have q : a = c + 6 := q; omega)))
    exact ga5.cast (by omega) (by omega)
end SXR
