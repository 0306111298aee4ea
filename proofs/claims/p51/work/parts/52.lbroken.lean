/-! THE LAW'S OWN COUNT of what breaks a rule -/
theorem sq_bd {d : Int} (h : -100 ≤ d ∧ d ≤ 100) : 0 ≤ d * d ∧ d * d ≤ 10000 := by
  have h1 : 0 ≤ (100 - d) * (100 + d) := Int.mul_nonneg (by omega) (by omega)
  rw [Int.sub_mul, Int.mul_add, Int.mul_add] at h1
  have h2 : 0 ≤ d * d := by
    rcases Int.le_total 0 d with q | q
    · exact Int.mul_nonneg q q
    · have := Int.mul_nonneg (a := -d) (b := -d) (by omega) (by omega)
      rwa [Int.neg_mul_neg] at this
  omega
def lnb (st r x d e : Int) : Bool := decide (d * d + e * e = 1 ∨ (st = 112 ∧ e * e = 1 ∧ ((d = 1 ∧ x % 2 = 1) ∨ (d = -1 ∧ x % 2 = 0))) ∨ (st = 98 ∧ d * d = 1 ∧ ((e = 1 ∧ r % 2 = 1) ∨ (e = -1 ∧ r % 2 = 0))))
def lsl (st : Int) (b : Bool) (d e : Int) : Bool := if st = 108 then decide (d * d = 1 ∧ e * e = 1) else b && (if st = 112 then decide (e * e = 1) else decide (d * d = 1))
theorem tmod2 {x : Int} (h : 0 ≤ x) : x - x.tdiv 2 * 2 = x % 2 := by
  rw [Int.tdiv_eq_ediv_of_nonneg h]; omega
def Clo.gk (C : Clo) (j : Nat) : Int := kcol (C.ks.getD j 0)
def Clo.dw (C : Clo) (k j : Nat) : Int := ((j / C.nc : Nat) : Int) - ((k / C.nc : Nat) : Int)
def Clo.rg (C : Clo) (k j : Nat) : Int := ((j % C.nc : Nat) : Int) - ((k % C.nc : Nat) : Int)
def Clo.lbe (C : Clo) (k j : Nat) : Bool := lnb C.st ((k / C.nc : Nat) : Int) ((k % C.nc : Nat) : Int) (C.dw k j) (C.rg k j)
def Clo.pal (C : Clo) (k j : Nat) : Bool := decide (C.gk k ≠ -1 ∧ C.gk k = C.gk j)
def Clo.pr (C : Clo) (rule : Int) (k j : Nat) : Int := bz (C.pal k j && (decide (rule = 1) && C.lbe k j || decide (rule = 2) && lsl C.st (C.lbe k j) (C.dw k j) (C.rg k j)))
def Clo.t3 (C : Clo) (rule : Int) (k : Nat) : Int := bz (decide (rule = 4) && decide (2 ≤ k % C.nc ∧ C.gk k ≠ -1 ∧ C.gk k = C.gk (k - 1) ∧ C.gk k = C.gk (k - 2)))
def Clo.edge (C : Clo) (k : Nat) : Bool := decide (k < C.nc ∨ C.ks.length - C.nc ≤ k ∨ k % C.nc = 0 ∨ k % C.nc = C.nc - 1)
def Clo.lfr (C : Clo) (rule : Int) (k : Nat) : Int := bz (decide (rule = 8) && C.edge k && decide (C.gk 0 ≠ -1 ∧ C.gk k ≠ -1 ∧ C.gk k ≠ C.gk 0))
def Clo.lbr (C : Clo) (rule : Int) : Int := nsum (fun k => nsum (fun j => C.pr rule k j) 0 k + C.t3 rule k + C.lfr rule k) 0 C.ks.length
theorem kk_bd {C : Clo} (hC : C.ok) (j : Nat) : -1 ≤ C.ks.getD j 0 ∧ C.ks.getD j 0 ≤ 3 := by
  by_cases h : j < C.ks.length
  · have := hC.2.2.2.1 (C.ks.getD j 0) (by rw [List.getD_eq_getElem?_getD, List.getElem?_eq_getElem h]; exact List.getElem_mem h)
    omega
  · rw [List.getD_eq_getElem?_getD, List.getElem?_eq_none (by omega)]
    decide
theorem gk_of {C : Clo} (hC : C.ok) (j : Nat) : (C.ks.getD j 0 < 0 → C.gk j = -1) ∧ (0 ≤ C.ks.getD j 0 → C.gk j = C.ks.getD j 0 - (C.ks.getD j 0).tdiv 3 * 3 ∧ 0 ≤ C.gk j ∧ C.gk j ≤ 2) := by
  have hb := kk_bd hC j
  unfold Clo.gk kcol
  constructor
  · intro h
    rw [if_neg (by omega)]
  · intro h
    rw [if_pos (by omega), Int.tdiv_eq_ediv_of_nonneg h]
    omega
section SXLB
variable {S : List Int32} {h : sx_H} {C : Clo} {a : Nat}
theorem m_ln {st r x r2 x2 : Int} (hst : st = 108 ∨ st = 112 ∨ st = 98) (hr : 0 ≤ r ∧ r ≤ 40) (hx : 0 ≤ x ∧ x ≤ 40) (hr2 : 0 ≤ r2 ∧ r2 ≤ 40) (hx2 : 0 ≤ x2 ∧ x2 ≤ 40) : sx_Cl S 119 [.int (sz st), .int (sz r), .int (sz x), .int (sz r2), .int (sz x2)] h = some (.inl (some (.int (sz (bz (lnb st r x (r2 - r) (x2 - x)))))), h) := by
  have n0 := nb0
  have n1 := nb1
  have hd := sq_bd (d := r2 - r) (by omega)
  have he := sq_bd (d := x2 - x) (by omega)
  have t1 := tmod2 hr.1
  have t2 := tmod2 hx.1
  rw [c119_q]
  simp (maxSteps := 2000000) (disch := omega) only [e119_0, e119_1, e119_2, e119_3, e119_5, e119_7, e119_8, e119_9, e119_11, e119_13, e119_15, e119_16, e119_18, e119_20, e119_21, e119_22, e119_23, e119_26, e119_27, e119_28, e119_29, e119_31, e119_34, e119_36, e119_38, e119_39, e119_40, e119_43, e119_45, e119_46, e119_49, e119_50, e119_51, e119_52, e119_53, e119_56, e119_58, e119_59, e119_62, e119_63, e119_64, e119_65, e119_68, e119_69, e119_72, e119_73, e119_74, e119_75, e119_77, e119_80, e119_82, e119_84, e119_85, e119_86, e119_89, e119_91, e119_92, e119_95, e119_96, e119_97, e119_98, e119_99, e119_102, e119_104, e119_105, e119_108, e119_109, e119_110, e119_111, e119_114, e119_115, e119_118, e119_119, sz_tdiv, t1, t2, Option.bind_some, sz_lt0, sz_lt, sz_0lt, sz_mul, sz_add, sz_sub, sz_eq0, sz_eq, sz_nat, List.length_map, nb0, nb1, bz_eq0, ↓reduceIte, Int.reduceEq, Int.reduceLT, Int.reduceAdd, Int.reduceSub, Int.reduceMul, Int.reduceNeg]
  unfold lnb
  generalize r2 - r = d at *
  generalize x2 - x = e at *
  repeat' split
  all_goals first
    | (exfalso; omega)
    | (rw [decide_eq_true (by omega)]; rfl)
    | (rw [decide_eq_false (by omega)]; rfl)
theorem m_lb_1 (hC : C.ok) {rule : Int} {k j : Nat} (hk : k < C.ks.length) (hj : j < k) (t : Int) (l7 l8 l9 l10 l11 : Option Value) :
    sx_Ev S 120 16 [some (.int (sz C.st)), some (.ref a), some (.int (sz C.nc)), some (.int (sz rule)), some (.int (sz t)), some (.int (sz k)), some (.int (sz j)), l7, l8, l9, l10, l11] [] h =
    sx_Ev S 120 67 [some (.int (sz C.st)), some (.ref a), some (.int (sz C.nc)), some (.int (sz rule)), some (.int (sz t)), some (.int (sz k)), some (.int (sz j)), some (.int (sz (C.dw k j))), some (.int (sz (C.rg k j))), some (.int (sz (bz (C.lbe k j)))), l10, l11] [] h := by
  obtain ⟨⟨a1, a2⟩, ⟨a3, a4⟩, a5, a6, a7, a8⟩ := hC
  have b2 := mulN_bd a4 a2
  have e1 : k / C.nc ≤ 12 := by
    have : k / C.nc < C.nr := Nat.div_lt_of_lt_mul (by rw [Nat.mul_comm]; omega)
    omega
  have e2 : j / C.nc ≤ k / C.nc := Nat.div_le_div_right (by omega)
  have e3 : k % C.nc < C.nc := Nat.mod_lt _ (by omega)
  have e4 : j % C.nc < C.nc := Nat.mod_lt _ (by omega)
  unfold Clo.lbe Clo.dw Clo.rg
  have w := m_ln (S := S) (h := h) (st := C.st) (r := ((k / C.nc : Nat) : Int)) (x := ((k % C.nc : Nat) : Int)) (r2 := ((j / C.nc : Nat) : Int)) (x2 := ((j % C.nc : Nat) : Int)) a8
  generalize hkd : k / C.nc = kd at *
  generalize hjd : j / C.nc = jd at *
  generalize hkm : k % C.nc = km at *
  generalize hjm : j % C.nc = jm at *
  have w := w (by omega) (by omega) (by omega) (by omega)
  have d1 := nat_tdiv k C.nc
  have d2 := nat_tdiv j C.nc
  have d3 := nat_tmod k C.nc
  have d4 := nat_tmod j C.nc
  rw [hkd] at d1 d3
  rw [hjd] at d2 d4
  rw [hkm] at d3
  rw [hjm] at d4
  rw [h120_16]
  have hz : ((C.nc : Int) = 0) = False := propext ⟨fun q => by omega, fun q => q.elim⟩
  simp (maxSteps := 2000000) (disch := omega) only [e120_18, e120_20, e120_23, e120_25, e120_26, e120_27, e120_29, e120_30, e120_31, e120_32, e120_34, e120_36, e120_37, e120_38, e120_40, e120_41, e120_42, e120_43, e120_45, e120_46, e120_48, e120_49, e120_50, e120_52, e120_53, e120_54, e120_56, e120_57, e120_58, e120_60, e120_61, e120_62, e120_65, sz_tdiv, d1, d2, d3, d4, w, hz, Option.bind_some, sz_lt0, sz_lt, sz_0lt, sz_mul, sz_add, sz_sub, sz_eq0, sz_eq, sz_nat, List.length_map, nb0, nb1, bz_eq0, ↓reduceIte, Int.reduceEq, Int.reduceLT, Int.reduceAdd, Int.reduceSub, Int.reduceMul, Int.reduceNeg]
  rw [if_pos (by omega)]
theorem m_lb_2 (hst : C.st = 108 ∨ C.st = 112 ∨ C.st = 98) {d e : Int} (b : Bool) (hd : -12 ≤ d ∧ d ≤ 12) (he : -12 ≤ e ∧ e ≤ 12) (l1 l2 l3 l4 l5 l6 l10 l11 : Option Value) :
    sx_Ev S 120 67 [some (.int (sz C.st)), l1, l2, l3, l4, l5, l6, some (.int (sz d)), some (.int (sz e)), some (.int (sz (bz b))), l10, l11] [] h =
    sx_Ev S 120 138 [some (.int (sz C.st)), l1, l2, l3, l4, l5, l6, some (.int (sz d)), some (.int (sz e)), some (.int (sz (bz b))), some (.int (sz (bz (lsl C.st b d e)))), l11] [] h := by
  have hd := sq_bd (d := d) (by omega)
  have he := sq_bd (d := e) (by omega)
  simp (maxSteps := 2000000) (disch := omega) only [e120_67, e120_68, e120_70, e120_73, e120_75, e120_77, e120_78, e120_79, e120_82, e120_84, e120_86, e120_87, e120_88, e120_91, e120_92, e120_95, e120_96, e120_99, e120_101, e120_104, e120_105, e120_107, e120_110, e120_112, e120_114, e120_115, e120_116, e120_119, e120_122, e120_124, e120_126, e120_127, e120_128, e120_131, e120_132, e120_135, e120_136, Option.bind_some, sz_lt0, sz_lt, sz_0lt, sz_mul, sz_add, sz_sub, sz_eq0, sz_eq, sz_nat, List.length_map, nb0, nb1, bz_eq0, ↓reduceIte, Int.reduceEq, Int.reduceLT, Int.reduceAdd, Int.reduceSub, Int.reduceMul, Int.reduceNeg]
  unfold lsl
  rcases hst with q | q | q <;> rw [q] <;> cases b <;> by_cases q1 : d * d = 1 <;> by_cases q2 : e * e = 1 <;> simp [q1, q2, bz]
theorem m_lb_3 (hC : C.ok) (ha : sx_get h a = some (.inl (C.ks.map sz))) {k j : Nat} (hk : k < C.ks.length) (hj : j < C.ks.length) (l0 l2 l3 l4 l7 l8 l9 l10 l11 : Option Value) :
    sx_Ev S 120 138 [l0, some (.ref a), l2, l3, l4, some (.int (sz k)), some (.int (sz j)), l7, l8, l9, l10, l11] [] h =
    sx_Ev S 120 174 [l0, some (.ref a), l2, l3, l4, some (.int (sz k)), some (.int (sz j)), l7, l8, l9, l10, some (.int (sz (bz (C.pal k j))))] [] h := by
  have hl : C.ks.length ≤ 144 := by rw [hC.2.2.1]; exact mulN_bd hC.2.1.2 hC.1.2
  have r1 := sx_rd_of (S := S) (x := (k : Int)) ha (by omega) (by omega)
  have r2 := sx_rd_of (S := S) (x := (j : Int)) ha (by omega) (by omega)
  rw [show (k : Int).toNat = k by omega] at r1
  rw [show (j : Int).toNat = j by omega] at r2
  have b1 := kk_bd hC k
  have b2 := kk_bd hC j
  obtain ⟨g1, g2⟩ := gk_of hC k
  obtain ⟨g3, g4⟩ := gk_of hC j
  have m1 := rem_bd (a := C.ks.getD k 0) (b := 3) (by omega)
  have m2 := rem_bd (a := C.ks.getD j 0) (b := 3) (by omega)
  simp (maxSteps := 2000000) (disch := omega) only [e120_138, e120_139, e120_141, e120_142, e120_145, e120_146, e120_148, e120_149, e120_152, e120_153, e120_155, e120_156, e120_157, e120_158, e120_159, e120_161, e120_162, e120_163, e120_164, e120_167, e120_168, e120_171, e120_172, r1, r2, sz_tdiv, Option.bind_some, sz_lt0, sz_lt, sz_0lt, sz_mul, sz_add, sz_sub, sz_eq0, sz_eq, sz_nat, List.length_map, nb0, nb1, bz_eq0, ↓reduceIte, Int.reduceEq, Int.reduceLT, Int.reduceAdd, Int.reduceSub, Int.reduceMul, Int.reduceNeg]
  unfold Clo.pal
  repeat' split
  all_goals first
    | (exfalso; omega)
    | (rw [decide_eq_true (by omega)]; rfl)
    | (rw [decide_eq_false (by omega)]; rfl)
theorem m_lb_4 {rule t : Int} {j : Nat} (hr : rule = 1 ∨ rule = 2 ∨ rule = 4 ∨ rule = 8) (p b s : Bool) (l0 l1 l2 l5 l7 l8 : Option Value) :
    sx_Ev S 120 174 [l0, l1, l2, some (.int (sz rule)), some (.int (sz t)), l5, some (.int (sz j)), l7, l8, some (.int (sz (bz b))), some (.int (sz (bz s))), some (.int (sz (bz p)))] [] h =
    sx_Ev S 120 16 [l0, l1, l2, some (.int (sz rule)), some (.int (sz (t + bz (p && (decide (rule = 1) && b || decide (rule = 2) && s))))), l5, some (.int (sz ((j + 1 : Nat) : Int))), l7, l8, some (.int (sz (bz b))), some (.int (sz (bz s))), some (.int (sz (bz p)))] [] h := by
  have hj1 : (j : Int) + 1 = ((j + 1 : Nat) : Int) := by omega
  simp (maxSteps := 2000000) (disch := omega) only [e120_174, e120_176, e120_178, e120_181, e120_182, e120_183, e120_186, e120_188, e120_191, e120_192, e120_193, e120_196, e120_198, e120_201, e120_202, e120_205, e120_206, e120_207, e120_209, e120_212, hj1, Option.bind_some, sz_lt0, sz_lt, sz_0lt, sz_mul, sz_add, sz_sub, sz_eq0, sz_eq, sz_nat, List.length_map, nb0, nb1, bz_eq0, ↓reduceIte, Int.reduceEq, Int.reduceLT, Int.reduceAdd, Int.reduceSub, Int.reduceMul, Int.reduceNeg]
  rcases hr with q | q | q | q <;> subst q <;> cases p <;> cases b <;> cases s <;> simp [bz]
theorem m_lb_j (hC : C.ok) (ha : sx_get h a = some (.inl (C.ks.map sz))) {rule : Int} (hr : rule = 1 ∨ rule = 2 ∨ rule = 4 ∨ rule = 8) {k : Nat} (hk : k < C.ks.length) : ∀ (n j : Nat) (t : Int) (l7 l8 l9 l10 l11 : Option Value), j + n = k →
    ∃ l7' l8' l9' l10' l11' : Option Value, sx_Ev S 120 16 [some (.int (sz C.st)), some (.ref a), some (.int (sz C.nc)), some (.int (sz rule)), some (.int (sz t)), some (.int (sz k)), some (.int (sz j)), l7, l8, l9, l10, l11] [] h =
      sx_Ev S 120 215 [some (.int (sz C.st)), some (.ref a), some (.int (sz C.nc)), some (.int (sz rule)), some (.int (sz (t + nsum (fun j => C.pr rule k j) j n))), some (.int (sz k)), some (.int (sz k)), l7', l8', l9', l10', l11'] [] h := by
  have hl : C.ks.length ≤ 144 := by rw [hC.2.2.1]; exact mulN_bd hC.2.1.2 hC.1.2
  intro n
  induction n with
  | zero =>
    intro j t l7 l8 l9 l10 l11 hj
    refine ⟨l7, l8, l9, l10, l11, ?_⟩
    rw [h120_16, show j = k by omega]
    simp (maxSteps := 2000000) (disch := omega) only [e120_18, e120_20, Option.bind_some, sz_lt0, sz_lt, sz_0lt, sz_mul, sz_add, sz_sub, sz_eq0, sz_eq, sz_nat, List.length_map, nb0, nb1, bz_eq0, ↓reduceIte, Int.reduceEq, Int.reduceLT, Int.reduceAdd, Int.reduceSub, Int.reduceMul, Int.reduceNeg]
    rw [if_neg (by omega)]
    simp [nsum]
  | succ n ih =>
    intro j t l7 l8 l9 l10 l11 hj
    obtain ⟨⟨a1, a2⟩, ⟨a3, a4⟩, a5, a6, a7, a8⟩ := id hC
    have e1 : k / C.nc ≤ 12 := by
      have : k / C.nc < C.nr := Nat.div_lt_of_lt_mul (by rw [Nat.mul_comm]; omega)
      omega
    have e2 : j / C.nc ≤ k / C.nc := Nat.div_le_div_right (by omega)
    have e3 : k % C.nc < C.nc := Nat.mod_lt _ (by omega)
    have e4 : j % C.nc < C.nc := Nat.mod_lt _ (by omega)
    have hd : -12 ≤ C.dw k j ∧ C.dw k j ≤ 12 := by unfold Clo.dw; generalize k / C.nc = u at *; generalize j / C.nc = v at *; omega
    have he : -12 ≤ C.rg k j ∧ C.rg k j ≤ 12 := by unfold Clo.rg; generalize k % C.nc = u at *; generalize j % C.nc = v at *; omega
    obtain ⟨m7, m8, m9, m10, m11, i1⟩ := ih (j + 1) (t + C.pr rule k j) (some (.int (sz (C.dw k j)))) (some (.int (sz (C.rg k j)))) (some (.int (sz (bz (C.lbe k j))))) (some (.int (sz (bz (lsl C.st (C.lbe k j) (C.dw k j) (C.rg k j)))))) (some (.int (sz (bz (C.pal k j))))) (by omega)
    refine ⟨m7, m8, m9, m10, m11, ?_⟩
    rw [m_lb_1 hC hk (by omega), m_lb_2 a8 _ hd he, m_lb_3 hC ha hk (by omega), m_lb_4 hr, nsum, ← Int.add_assoc]
    exact i1
theorem m_lb_5 (hC : C.ok) (ha : sx_get h a = some (.inl (C.ks.map sz))) {rule : Int} (hr : rule = 1 ∨ rule = 2 ∨ rule = 4 ∨ rule = 8) {k : Nat} (hk : k < C.ks.length) (t : Int) (l0 l6 l7 l8 l9 l10 l11 : Option Value) :
    sx_Ev S 120 215 [l0, some (.ref a), some (.int (sz C.nc)), some (.int (sz rule)), some (.int (sz t)), some (.int (sz k)), l6, l7, l8, l9, l10, l11] [] h =
    sx_Ev S 120 297 [l0, some (.ref a), some (.int (sz C.nc)), some (.int (sz rule)), some (.int (sz (t + C.t3 rule k))), some (.int (sz k)), l6, l7, l8, l9, l10, l11] [] h := by
  have hl : C.ks.length ≤ 144 := by rw [hC.2.2.1]; exact mulN_bd hC.2.1.2 hC.1.2
  obtain ⟨⟨a1, a2⟩, -⟩ := id hC
  have e3 : k % C.nc < C.nc := Nat.mod_lt _ (by omega)
  have e5 : k % C.nc ≤ k := Nat.mod_le _ _
  have d1 := nat_tdiv k C.nc
  have d3 := nat_tmod k C.nc
  have r1 := sx_rd_of (S := S) (x := (k : Int)) ha (by omega) (by omega)
  rw [show (k : Int).toNat = k by omega] at r1
  have b1 := kk_bd hC k
  obtain ⟨g1, g2⟩ := gk_of hC k
  have m1 := rem_bd (a := C.ks.getD k 0) (b := 3) (by omega)
  unfold Clo.t3
  generalize hkm : k % C.nc = km at *
  by_cases c4 : rule = 4
  · by_cases c2 : 2 ≤ km
    · have r2 := sx_rd_of (S := S) (x := (k : Int) - 1) ha (by omega) (by omega)
      have r3 := sx_rd_of (S := S) (x := (k : Int) - 2) ha (by omega) (by omega)
      rw [show ((k : Int) - 1).toNat = k - 1 by omega] at r2
      rw [show ((k : Int) - 2).toNat = k - 2 by omega] at r3
      have b2 := kk_bd hC (k - 1)
      obtain ⟨g3, g4⟩ := gk_of hC (k - 1)
      have m2 := rem_bd (a := C.ks.getD (k - 1) 0) (b := 3) (by omega)
      have b3 := kk_bd hC (k - 2)
      obtain ⟨g5, g6⟩ := gk_of hC (k - 2)
      have m3 := rem_bd (a := C.ks.getD (k - 2) 0) (b := 3) (by omega)
      simp (maxSteps := 2000000) (disch := omega) only [e120_215, e120_216, e120_217, e120_220, e120_222, e120_223, e120_224, e120_225, e120_228, e120_229, e120_231, e120_232, e120_235, e120_236, e120_238, e120_239, e120_240, e120_241, e120_244, e120_245, e120_247, e120_248, e120_249, e120_250, e120_253, e120_255, e120_256, e120_258, e120_259, e120_260, e120_261, e120_262, e120_264, e120_265, e120_266, e120_267, e120_268, e120_269, e120_272, e120_273, e120_275, e120_276, e120_277, e120_278, e120_279, e120_281, e120_282, e120_283, e120_284, e120_285, e120_286, e120_289, e120_290, e120_293, e120_294, e120_295, sz_tdiv, d1, d3, r1, r2, r3, Option.bind_some, sz_lt0, sz_lt, sz_0lt, sz_mul, sz_add, sz_sub, sz_eq0, sz_eq, sz_nat, List.length_map, nb0, nb1, bz_eq0, ↓reduceIte, Int.reduceEq, Int.reduceLT, Int.reduceAdd, Int.reduceSub, Int.reduceMul, Int.reduceNeg]
      rw [if_pos c4, if_neg (by omega), if_neg (by omega), decide_eq_true c4, Bool.true_and]
      repeat' split
      all_goals first
        | (exfalso; omega)
        | (rw [decide_eq_true (by omega)]; rfl)
        | (rw [decide_eq_false (by omega)]; simp [bz]; done)
    · simp (maxSteps := 2000000) (disch := omega) only [e120_215, e120_216, e120_217, e120_220, e120_222, e120_223, e120_224, e120_225, e120_228, e120_229, e120_231, e120_232, e120_235, e120_236, e120_238, e120_239, e120_240, e120_241, e120_244, e120_245, e120_247, e120_248, e120_249, e120_250, e120_253, e120_255, e120_256, e120_258, e120_259, e120_260, e120_261, e120_262, e120_264, e120_265, e120_266, e120_267, e120_268, e120_269, e120_272, e120_273, e120_275, e120_276, e120_277, e120_278, e120_279, e120_281, e120_282, e120_283, e120_284, e120_285, e120_286, e120_289, e120_290, e120_293, e120_294, e120_295, sz_tdiv, d1, d3, Option.bind_some, sz_lt0, sz_lt, sz_0lt, sz_mul, sz_add, sz_sub, sz_eq0, sz_eq, sz_nat, List.length_map, nb0, nb1, bz_eq0, ↓reduceIte, Int.reduceEq, Int.reduceLT, Int.reduceAdd, Int.reduceSub, Int.reduceMul, Int.reduceNeg]
      rw [if_pos c4, if_neg (by omega), if_pos (by omega), decide_eq_false (show ¬ (2 ≤ km ∧ C.gk k ≠ -1 ∧ C.gk k = C.gk (k - 1) ∧ C.gk k = C.gk (k - 2)) by omega), Bool.and_false]
      simp [bz]
  · simp (maxSteps := 2000000) (disch := omega) only [e120_215, e120_216, e120_217, e120_220, e120_222, e120_223, e120_224, e120_225, e120_228, e120_229, e120_231, e120_232, e120_235, e120_236, e120_238, e120_239, e120_240, e120_241, e120_244, e120_245, e120_247, e120_248, e120_249, e120_250, e120_253, e120_255, e120_256, e120_258, e120_259, e120_260, e120_261, e120_262, e120_264, e120_265, e120_266, e120_267, e120_268, e120_269, e120_272, e120_273, e120_275, e120_276, e120_277, e120_278, e120_279, e120_281, e120_282, e120_283, e120_284, e120_285, e120_286, e120_289, e120_290, e120_293, e120_294, e120_295, Option.bind_some, sz_lt0, sz_lt, sz_0lt, sz_mul, sz_add, sz_sub, sz_eq0, sz_eq, sz_nat, List.length_map, nb0, nb1, bz_eq0, ↓reduceIte, Int.reduceEq, Int.reduceLT, Int.reduceAdd, Int.reduceSub, Int.reduceMul, Int.reduceNeg]
    rw [if_neg c4, decide_eq_false c4]
    simp [bz]
theorem m_lb_6 (hC : C.ok) (ha : sx_get h a = some (.inl (C.ks.map sz))) {k : Nat} (hk : k < C.ks.length) (l0 l3 l4 l6 l7 l8 l9 l10 l11 : Option Value) :
    sx_Ev S 120 297 [l0, some (.ref a), some (.int (sz C.nc)), l3, l4, some (.int (sz k)), l6, l7, l8, l9, l10, l11] [] h =
    sx_Ev S 120 336 [l0, some (.ref a), some (.int (sz C.nc)), l3, l4, some (.int (sz k)), some (.int (sz (bz (C.edge k)))), l7, l8, l9, l10, l11] [] h := by
  have hl : C.ks.length ≤ 144 := by rw [hC.2.2.1]; exact mulN_bd hC.2.1.2 hC.1.2
  obtain ⟨⟨a1, a2⟩, ⟨a3, a4⟩, a5, -⟩ := id hC
  have hle : C.nc ≤ C.ks.length := by rw [a5]; exact Nat.le_mul_of_pos_left _ (by omega)
  have i0 := sx_ints_of (S := S) ha
  have e3 : k % C.nc < C.nc := Nat.mod_lt _ (by omega)
  have d1 := nat_tdiv k C.nc
  have d3 := nat_tmod k C.nc
  unfold Clo.edge
  generalize hkm : k % C.nc = km at *
  simp (maxSteps := 2000000) (disch := omega) only [e120_297, e120_299, e120_300, e120_303, e120_305, e120_306, e120_307, e120_308, e120_309, e120_312, e120_314, e120_315, e120_316, e120_319, e120_321, e120_322, e120_323, e120_324, e120_325, e120_326, e120_329, e120_330, e120_333, e120_334, sz_tdiv, d1, d3, i0, Option.bind_some, sz_lt0, sz_lt, sz_0lt, sz_mul, sz_add, sz_sub, sz_eq0, sz_eq, sz_nat, List.length_map, nb0, nb1, bz_eq0, ↓reduceIte, Int.reduceEq, Int.reduceLT, Int.reduceAdd, Int.reduceSub, Int.reduceMul, Int.reduceNeg]
  repeat' split
  all_goals first
    | (exfalso; omega)
    | (rw [decide_eq_true (by omega)]; rfl)
    | (rw [decide_eq_false (by omega)]; rfl)
theorem m_lb_7 (hC : C.ok) (ha : sx_get h a = some (.inl (C.ks.map sz))) {rule : Int} (hr : rule = 1 ∨ rule = 2 ∨ rule = 4 ∨ rule = 8) {k : Nat} (hk : k < C.ks.length) (t : Int) (b : Bool) (l0 l2 l7 l8 l9 l10 l11 : Option Value) :
    sx_Ev S 120 336 [l0, some (.ref a), l2, some (.int (sz rule)), some (.int (sz t)), some (.int (sz k)), some (.int (sz (bz b))), l7, l8, l9, l10, l11] [] h =
    sx_Ev S 120 6 [l0, some (.ref a), l2, some (.int (sz rule)), some (.int (sz (t + bz (decide (rule = 8) && b && decide (C.gk 0 ≠ -1 ∧ C.gk k ≠ -1 ∧ C.gk k ≠ C.gk 0))))), some (.int (sz ((k + 1 : Nat) : Int))), some (.int (sz (bz b))), l7, l8, l9, l10, l11] [] h := by
  have hl : C.ks.length ≤ 144 := by rw [hC.2.2.1]; exact mulN_bd hC.2.1.2 hC.1.2
  have hk1 : (k : Int) + 1 = ((k + 1 : Nat) : Int) := by omega
  have r1 := sx_rd_of (S := S) (x := (k : Int)) ha (by omega) (by omega)
  have r2 := sx_rd_of (S := S) (x := (0 : Int)) ha (by omega) (by omega)
  rw [show (k : Int).toNat = k by omega] at r1
  rw [show (0 : Int).toNat = 0 by omega] at r2
  have b1 := kk_bd hC k
  have b2 := kk_bd hC 0
  obtain ⟨g1, g2⟩ := gk_of hC k
  obtain ⟨g3, g4⟩ := gk_of hC 0
  have m1 := rem_bd (a := C.ks.getD k 0) (b := 3) (by omega)
  have m2 := rem_bd (a := C.ks.getD 0 0) (b := 3) (by omega)
  simp (maxSteps := 2000000) (disch := omega) only [e120_336, e120_338, e120_339, e120_341, e120_344, e120_346, e120_349, e120_350, e120_351, e120_352, e120_355, e120_356, e120_358, e120_359, e120_362, e120_363, e120_365, e120_366, e120_367, e120_368, e120_369, e120_370, e120_371, e120_372, e120_373, e120_376, e120_377, e120_380, e120_381, e120_382, e120_384, e120_387, r1, r2, sz_tdiv, hk1, Option.bind_some, sz_lt0, sz_lt, sz_0lt, sz_mul, sz_add, sz_sub, sz_eq0, sz_eq, sz_nat, List.length_map, nb0, nb1, bz_eq0, ↓reduceIte, Int.reduceEq, Int.reduceLT, Int.reduceAdd, Int.reduceSub, Int.reduceMul, Int.reduceNeg]
  by_cases c8 : rule = 8
  · rw [if_pos c8, decide_eq_true c8, Bool.true_and]
    cases b
    · rw [if_pos rfl, Bool.false_and]; simp [bz]
    · rw [if_neg (by simp), Bool.true_and]
      repeat' split
      all_goals first
        | (exfalso; omega)
        | (rw [decide_eq_true (by omega)]; rfl)
        | (rw [decide_eq_false (by omega)]; simp [bz]; done)
  · rw [if_neg c8, decide_eq_false c8, Bool.false_and, Bool.false_and]; simp [bz]
theorem m_lb_k (hC : C.ok) (ha : sx_get h a = some (.inl (C.ks.map sz))) {rule : Int} (hr : rule = 1 ∨ rule = 2 ∨ rule = 4 ∨ rule = 8) : ∀ (n k : Nat) (t : Int) (l6 l7 l8 l9 l10 l11 : Option Value), k + n = C.ks.length →
    sx_Ev S 120 6 [some (.int (sz C.st)), some (.ref a), some (.int (sz C.nc)), some (.int (sz rule)), some (.int (sz t)), some (.int (sz k)), l6, l7, l8, l9, l10, l11] [] h =
      some (.inl (some (.int (sz (t + nsum (fun k => nsum (fun j => C.pr rule k j) 0 k + C.t3 rule k + C.lfr rule k) k n)))), h) := by
  have hl : C.ks.length ≤ 144 := by rw [hC.2.2.1]; exact mulN_bd hC.2.1.2 hC.1.2
  have i0 := sx_ints_of (S := S) ha
  intro n
  induction n with
  | zero =>
    intro k t l6 l7 l8 l9 l10 l11 hk
    rw [h120_6]
    simp (maxSteps := 2000000) (disch := omega) only [e120_8, e120_9, e120_10, e120_390, e120_392, i0, Option.bind_some, sz_lt0, sz_lt, sz_0lt, sz_mul, sz_add, sz_sub, sz_eq0, sz_eq, sz_nat, List.length_map, nb0, nb1, bz_eq0, ↓reduceIte, Int.reduceEq, Int.reduceLT, Int.reduceAdd, Int.reduceSub, Int.reduceMul, Int.reduceNeg]
    rw [if_neg (by omega)]
    simp [nsum]
  | succ n ih =>
    intro k t l6 l7 l8 l9 l10 l11 hk
    obtain ⟨m7, m8, m9, m10, m11, i1⟩ := m_lb_j (S := S) hC ha hr (k := k) (by omega) k 0 t l7 l8 l9 l10 l11 (by omega)
    rw [h120_6]
    simp (maxSteps := 2000000) (disch := omega) only [e120_8, e120_9, e120_10, e120_13, e120_14, i0, Option.bind_some, sz_lt0, sz_lt, sz_0lt, sz_mul, sz_add, sz_sub, sz_eq0, sz_eq, sz_nat, List.length_map, nb0, nb1, bz_eq0, ↓reduceIte, Int.reduceEq, Int.reduceLT, Int.reduceAdd, Int.reduceSub, Int.reduceMul, Int.reduceNeg]
    rw [if_pos (by omega)]
    refine i1.trans ?_
    rw [m_lb_5 hC ha hr (by omega), m_lb_6 hC ha (by omega), m_lb_7 hC ha hr (by omega)]
    refine (ih (k + 1) _ _ _ _ _ _ _ (by omega)).trans ?_
    rw [nsum]
    have : C.lfr rule k = bz (decide (rule = 8) && C.edge k && decide (C.gk 0 ≠ -1 ∧ C.gk k ≠ -1 ∧ C.gk k ≠ C.gk 0)) := rfl
    rw [this]
    simp only [Int.add_assoc]
theorem m_lbr (hC : C.ok) (ha : sx_get h a = some (.inl (C.ks.map sz))) {rule : Int} (hr : rule = 1 ∨ rule = 2 ∨ rule = 4 ∨ rule = 8) : sx_Cl S 120 [.int (sz C.st), .ref a, .int (sz C.nc), .int (sz rule)] h = some (.inl (some (.int (sz (C.lbr rule)))), h) := by
  rw [c120_q]
  simp (maxSteps := 2000000) (disch := omega) only [e120_0, e120_1, e120_3, e120_4, Option.bind_some, sz_lt0, sz_lt, sz_0lt, sz_mul, sz_add, sz_sub, sz_eq0, sz_eq, sz_nat, List.length_map, nb0, nb1, bz_eq0, ↓reduceIte, Int.reduceEq, Int.reduceLT, Int.reduceAdd, Int.reduceSub, Int.reduceMul, Int.reduceNeg]
  refine (m_lb_k hC ha hr C.ks.length 0 0 _ _ _ _ _ _ (by omega)).trans ?_
  rw [Int.zero_add]
  rfl
end SXLB
