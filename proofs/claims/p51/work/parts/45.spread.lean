/-! THE MOTIF spread over the cloth -/
theorem sz_xlt {a b : Int} (ha : -1000000000 ≤ a ∧ a ≤ 1000000000) (hb : 0 ≤ b ∧ b ≤ 1000000000) : (sz a ^^^ sz b < 0) = (a < 0) := by
  have e1 : (sz a).toBitVec.msb = decide (a < 0) := by
    rw [BitVec.msb_eq_toInt, show (sz a).toBitVec.toInt = (sz a).toInt from rfl, sz_toInt ha]
  have e2 : (sz b).toBitVec.msb = decide (b < 0) := by
    rw [BitVec.msb_eq_toInt, show (sz b).toBitVec.toInt = (sz b).toInt from rfl, sz_toInt (by omega)]
  have e3 : (sz a ^^^ sz b).toBitVec.msb = decide (a < 0) := by
    rw [Int32.toBitVec_xor, BitVec.msb_xor, e1, e2, decide_eq_false (show ¬ b < 0 by omega), Bool.xor_false]
  rw [BitVec.msb_eq_toInt] at e3
  rw [Int32.lt_iff_toInt_lt]
  exact propext (decide_eq_decide.mp e3)
/-- the remainder that is not negative -/
def fmz (x w : Int) : Int := if x - x.tdiv w * w < 0 then x - x.tdiv w * w + w else x - x.tdiv w * w
theorem fmz_bd {x w : Int} (hw : 0 < w) : 0 ≤ fmz x w ∧ fmz x w < w := by
  have := rem_bd (a := x) hw
  unfold fmz
  split <;> omega
theorem fmz_small {x w : Int} (h : 0 ≤ x ∧ x < w) : fmz x w = x := by
  have e : x.tdiv w = 0 := Int.tdiv_eq_zero_of_lt h.1 h.2
  unfold fmz
  rw [e, Int.zero_mul, if_neg (by omega), Int.sub_zero]
def Clo.mk (C : Clo) (w v : Nat) (s : Int) (r x : Nat) : Int := C.k (((r : Int) - (r : Int).tdiv v * v) * C.nc + fmz ((x : Int) - s * (r : Int).tdiv v) w)
def Clo.chg (C : Clo) (w v : Nat) (s : Int) (r x : Nat) : Int := if C.k ((r : Int) * C.nc + x) = C.mk w v s r x then 0 else 1
def Clo.mot (C : Clo) (w v : Nat) (s : Int) : Clo := (C.st, C.nc, C.nr, (List.range C.ks.length).map (fun i => C.mk w v s (i / C.nc) (i % C.nc)), C.ru)
def Clo.motn (C : Clo) (w v : Nat) (s : Int) : Int := nsum (fun r => nsum (fun x => C.chg w v s r x) 0 C.nc) 0 C.nr
def Clo.mid (C : Clo) (w v : Nat) (s : Int) (D : Clo) (i : Nat) : Prop := D.st = C.st ∧ D.nc = C.nc ∧ D.nr = C.nr ∧ D.ru = C.ru ∧ D.ks.length = C.ks.length ∧ ∀ j, j < C.ks.length → D.ks.getD j 0 = if j < i then C.mk w v s (j / C.nc) (j % C.nc) else C.ks.getD j 0
theorem Clo.k_in (C : Clo) {i : Nat} (h : i < C.ks.length) : C.k i = C.ks.getD i 0 := by
  unfold Clo.k
  rw [if_pos (by omega)]
  rfl
theorem nat_rx {r x nc : Nat} (hx : x < nc) : (r * nc + x) / nc = r ∧ (r * nc + x) % nc = x := by
  have hp : 0 < nc := by omega
  constructor
  · rw [Nat.mul_comm, Nat.mul_add_div hp, Nat.div_eq_of_lt hx, Nat.add_zero]
  · rw [Nat.mul_comm, Nat.mul_add_mod, Nat.mod_eq_of_lt hx]
theorem rx_lt {r x nc nr : Nat} (hr : r < nr) (hx : x < nc) : r * nc + x < nr * nc := by
  have : (r + 1) * nc ≤ nr * nc := Nat.mul_le_mul_right nc hr
  rw [Nat.add_mul] at this
  omega
theorem Clo.mk_src (C : Clo) (hC : C.ok) {w v : Nat} {s : Int} (hw : 1 ≤ w ∧ w ≤ C.nc) (hv : 1 ≤ v ∧ v ≤ C.nr) {D : Clo} {i : Nat} (hm : C.mid w v s D i) (r x : Nat) :
    D.k (((r : Int) - (r : Int).tdiv v * v) * C.nc + fmz ((x : Int) - s * (r : Int).tdiv v) w) = C.mk w v s r x := by
  have hb := fmz_bd (x := (x : Int) - s * (r : Int).tdiv v) (w := w) (by omega)
  have hr1 : (r : Int) - (r : Int).tdiv v * v = ((r % v : Nat) : Int) := by
    rw [Int.tdiv_eq_ediv_of_nonneg (by omega), Int.mul_comm, ← Int.emod_def]
    rfl
  have hrv : r % v < v := Nat.mod_lt _ (by omega)
  obtain ⟨f, hf⟩ : ∃ f : Nat, fmz ((x : Int) - s * (r : Int).tdiv v) w = f := ⟨(fmz ((x : Int) - s * (r : Int).tdiv v) w).toNat, by omega⟩
  have hidx : ((r : Int) - (r : Int).tdiv v * v) * C.nc + fmz ((x : Int) - s * (r : Int).tdiv v) w = ((r % v * C.nc + f : Nat) : Int) := by
    rw [hr1, hf, Int.natCast_add, Int.natCast_mul]
  have hlt : r % v * C.nc + f < C.ks.length := by rw [hC.2.2.1]; exact rx_lt (by omega) (by omega)
  have e1 : C.mk w v s r x = C.k ((r % v * C.nc + f : Nat) : Int) := by unfold Clo.mk; rw [hidx]
  rw [hidx, e1, D.k_in (by rw [hm.2.2.2.2.1]; exact hlt), C.k_in hlt, hm.2.2.2.2.2 _ hlt]
  split
  · obtain ⟨d1, d2⟩ := nat_rx (r := r % v) (x := f) (nc := C.nc) (by omega)
    rw [d1, d2]
    unfold Clo.mk
    have e2 : ((r % v : Nat) : Int).tdiv v = 0 := Int.tdiv_eq_zero_of_lt (by omega) (by omega)
    rw [e2, Int.zero_mul, Int.sub_zero, Int.mul_zero, Int.sub_zero, fmz_small (by omega), ← C.k_in hlt, Int.natCast_add, Int.natCast_mul]
  · rfl
theorem Clo.mid_step (C : Clo) {w v : Nat} {s : Int} {D : Clo} {r x : Nat} (hx : x < C.nc) (hi : r * C.nc + x < C.ks.length) (hm : C.mid w v s D (r * C.nc + x)) (he : D.k ((r * C.nc + x : Nat) : Int) = C.mk w v s r x) : C.mid w v s D (r * C.nc + (x + 1)) := by
  obtain ⟨m1, m2, m3, m4, m5, m6⟩ := hm
  refine ⟨m1, m2, m3, m4, m5, fun j hj => ?_⟩
  by_cases q : j = r * C.nc + x
  · subst q
    obtain ⟨d1, d2⟩ := nat_rx (r := r) hx
    rw [if_pos (by omega), d1, d2, ← he, D.k_in (by omega)]
  · rw [m6 j hj]
    by_cases q2 : j < r * C.nc + x
    · rw [if_pos q2, if_pos (by omega)]
    · rw [if_neg q2, if_neg (by omega)]
theorem Clo.mid_set (C : Clo) {w v : Nat} {s : Int} {D : Clo} {r x : Nat} (hx : x < C.nc) (hi : r * C.nc + x < C.ks.length) (hm : C.mid w v s D (r * C.nc + x)) : C.mid w v s (D.set ((r * C.nc + x : Nat) : Int) (C.mk w v s r x)) (r * C.nc + (x + 1)) := by
  obtain ⟨m1, m2, m3, m4, m5, m6⟩ := hm
  refine ⟨m1, m2, m3, m4, (List.length_set).trans m5, fun j hj => ?_⟩
  show (D.ks.set (r * C.nc + x) (C.mk w v s r x)).getD j 0 = _
  rw [sx_getD_set _ _ _ _ (by omega)]
  by_cases q : r * C.nc + x = j
  · subst q
    obtain ⟨d1, d2⟩ := nat_rx (r := r) hx
    rw [if_pos rfl, if_pos (by omega), d1, d2]
  · rw [if_neg q, m6 j hj]
    by_cases q2 : j < r * C.nc + x
    · rw [if_pos q2, if_pos (by omega)]
    · rw [if_neg q2, if_neg (by omega)]
theorem Clo.mid_end (C : Clo) {w v : Nat} {s : Int} {D : Clo} (hm : C.mid w v s D C.ks.length) : D = C.mot w v s := by
  obtain ⟨m1, m2, m3, m4, m5, m6⟩ := hm
  obtain ⟨d1, d2, d3, d4, d5⟩ := D
  have e : d4 = (List.range C.ks.length).map (fun i => C.mk w v s (i / C.nc) (i % C.nc)) := by
    refine List.ext_getElem (by rw [List.length_map, List.length_range]; exact m5) fun j h1 h2 => ?_
    have h3 : j < C.ks.length := by rw [List.length_map, List.length_range] at h2; exact h2
    have := m6 j h3
    rw [if_pos h3] at this
    rw [List.getElem_map, List.getElem_range, ← this]
    show _ = d4.getD j 0
    rw [List.getD_eq_getElem?_getD, List.getElem?_eq_getElem h1]
    rfl
  unfold Clo.mot
  rw [← e, ← m1, ← m2, ← m3, ← m4]
  rfl
theorem Clo.chg_bd (C : Clo) (w v : Nat) (s : Int) (r x : Nat) : 0 ≤ C.chg w v s r x ∧ C.chg w v s r x ≤ 1 := by
  unfold Clo.chg
  split <;> omega
section SXS
variable {S : List Int32} {h : sx_H} {K A B c p q : Nat} {ws : List Int} {C : Clo}
theorem m_fmod {a b : Int} (ha : -100000 ≤ a ∧ a ≤ 100000) (hb : 1 ≤ b ∧ b ≤ 1000) : sx_Cl S 35 [.int (sz a), .int (sz b)] h = some (.inl (some (.int (sz (fmz a b)))), h) := by
  have hm := rem_bd (a := a) (b := b) (by omega)
  have hs : 0 ≤ a → 0 ≤ a - a.tdiv b * b := fun q => by
    have := Int.tmod_nonneg b q
    rw [Int.tmod_def, Int.mul_comm] at this
    exact this
  have hs2 : a < 0 → a - a.tdiv b * b ≤ 0 := fun q => by
    have e2 := Int.tmod_nonneg (a := -a) b (by omega)
    rw [Int.neg_tmod, Int.tmod_def, Int.mul_comm] at e2
    omega
  simp (disch := omega) only [c35_q, q35, sz_tdiv, sz_xlt, Option.bind_some, sz_lt0, sz_lt, sz_0lt, sz_mul, sz_add, sz_sub, sz_eq0, sz_eq, sz_nat, List.length_map, nb0, nb1, bz_eq0, ↓reduceIte, Int.reduceEq, Int.reduceLT, Int.reduceAdd, Int.reduceSub, Int.reduceMul, Int.reduceNeg]
  unfold fmz
  rw [if_neg (by omega)]
  by_cases h1 : a < 0
  · have := hs2 h1
    rw [if_pos h1]
    by_cases h2 : a - a.tdiv b * b = 0
    · rw [if_pos h2, if_neg (by omega)]
    · rw [if_neg h2, if_pos (by omega)]
  · have := hs (by omega)
    rw [if_neg h1, if_neg (by omega)]
theorem m_spread_x (hA : (A ≠ p ∧ A ≠ q) ∧ (B ≠ p ∧ B ≠ q) ∧ p ≠ q) (hCo : C.ok) {w v : Nat} {s : Int} (hw : 1 ≤ w ∧ w ≤ C.nc) (hv : 1 ≤ v ∧ v ≤ C.nr) (hs : -12 ≤ s ∧ s ≤ 12) {r : Nat} (hr : r < C.nr) : ∀ (n x : Nat) (t : Int) (h : sx_H) (D : Clo) (l7 l8 l9 : Option Value), x + n = C.nc → sx_KV h K A B ws → sx_CV h K c p q D → C.mid w v s D (r * C.nc + x) → 0 ≤ t ∧ t ≤ 5000 - n →
    ∃ (h' : sx_H) (D' : Clo) (l7' l8' l9' : Option Value), sx_Ev S 36 30 [some (.ref c), some (.int (sz w)), some (.int (sz v)), some (.int (sz s)), some (.int (sz t)), some (.int (sz r)), some (.int (sz x)), l7, l8, l9] [] h =
      sx_Ev S 36 18 [some (.ref c), some (.int (sz w)), some (.int (sz v)), some (.int (sz s)), some (.int (sz (t + nsum (fun x => C.chg w v s r x) x n))), some (.int (sz ((r + 1 : Nat) : Int))), some (.int (sz (C.nc : Int))), l7', l8', l9'] [] h' ∧
      sx_KV h' K A B ws ∧ sx_CV h' K c p q D' ∧ C.mid w v s D' ((r + 1) * C.nc) ∧ sx_gr (fun a => a = p ∨ a = q) 0 0 h h' := by
  obtain ⟨⟨a1, a2⟩, ⟨a3, a4⟩, a5, a6, a7, a8⟩ := id hCo
  have hr1 : (r : Int) + 1 = ((r + 1 : Nat) : Int) := by omega
  have bm := mulN_bd a4 a2
  intro n
  induction n with
  | zero =>
    intro x t h D l7 l8 l9 hx hK hC hm ht
    obtain ⟨f0, f1, f2, f3, f5, f6, f9, f10, fk, i5, i6⟩ := hC.f (S := S)
    rw [hm.2.1] at f2
    refine ⟨h, D, l7, l8, l9, ?_, hK, hC, ?_, sx_gr.refl h⟩
    · rw [h36_30]
      simp (disch := omega) only [q36_0, q36_1, f2, hr1, Option.bind_some, sz_lt0, sz_lt, sz_0lt, sz_mul, sz_add, sz_sub, sz_eq0, sz_eq, sz_nat, List.length_map, nb0, nb1, bz_eq0, ↓reduceIte, Int.reduceEq, Int.reduceLT, Int.reduceAdd, Int.reduceSub, Int.reduceMul, Int.reduceNeg]
      rw [if_neg (by omega), show x = C.nc by omega]
      simp [nsum]
    · rw [show (r + 1) * C.nc = r * C.nc + x by rw [Nat.add_mul]; omega]
      exact hm
  | succ n ih =>
    intro x t h D l7 l8 l9 hx hK hC hm ht
    obtain ⟨f0, f1, f2, f3, f5, f6, f9, f10, fk, i5, i6⟩ := hC.f (S := S)
    rw [hm.2.1] at f2
    have hx1 : (x : Int) + 1 = ((x + 1 : Nat) : Int) := by omega
    have hrx : (r : Int) * C.nc + x = ((r * C.nc + x : Nat) : Int) := by rw [Int.natCast_add, Int.natCast_mul]
    have hilt : r * C.nc + x < C.ks.length := by rw [a5]; exact rx_lt hr (by omega)
    have hrd : (r : Int).tdiv v = ((r / v : Nat) : Int) := by rw [Int.tdiv_eq_ediv_of_nonneg (by omega)]; rfl
    have hrd2 : r / v ≤ r := Nat.div_le_self r v
    have hsb : -200 ≤ s * (r : Int).tdiv v ∧ s * (r : Int).tdiv v ≤ 200 := by
      rw [hrd]
      generalize r / v = y at hrd2
      have e1 : s * (y : Int) ≤ 12 * (y : Int) := Int.mul_le_mul_of_nonneg_right hs.2 (Int.natCast_nonneg _)
      have e2 : -12 * (y : Int) ≤ s * (y : Int) := Int.mul_le_mul_of_nonneg_right hs.1 (Int.natCast_nonneg _)
      omega
    have hfb := fmz_bd (x := (x : Int) - s * (r : Int).tdiv v) (w := w) (by omega)
    have hrm := rem_bd (a := (r : Int)) (b := v) (by omega)
    have b3 := mul_bd (r := (r : Int) - (r : Int).tdiv v * v) (nc := C.nc) (by omega) a2
    have b4 := mul_bd (r := (r : Int)) (nc := C.nc) (by omega) a2
    have e1 := m_fmod (S := S) (h := h) (a := (x : Int) - s * (r : Int).tdiv v) (b := w) (by omega) (by omega)
    have e2 := m_cellOf (S := S) hC (r := (r : Int) - (r : Int).tdiv v * v) (x := fmz ((x : Int) - s * (r : Int).tdiv v) w)
    have e3 := m_kindIn (S := S) hC (i := ((r : Int) - (r : Int).tdiv v * v) * C.nc + fmz ((x : Int) - s * (r : Int).tdiv v) w) (by omega)
    have e4 := m_cellOf (S := S) hC (r := (r : Int)) (x := (x : Int))
    have e5 := m_kindIn (S := S) hC (i := ((r * C.nc + x : Nat) : Int)) (by omega)
    rw [hm.2.1] at e2 e4
    rw [C.mk_src hCo hw hv hm r x] at e3
    rw [hrx] at e4
    have hkm : -1 ≤ C.mk w v s r x ∧ C.mk w v s r x ≤ 3 := Clo.k_bd hCo _
    have hkD := Clo.k_bd hC.1 ((r * C.nc + x : Nat) : Int)
    have hDi : D.k ((r * C.nc + x : Nat) : Int) = C.k ((r * C.nc + x : Nat) : Int) := by
      rw [D.k_in (by rw [hm.2.2.2.2.1]; exact hilt), C.k_in hilt, hm.2.2.2.2.2 _ hilt, if_neg (by omega)]
    have hcg := C.chg_bd w v s r x
    have hce : C.chg w v s r x = if C.k ((r * C.nc + x : Nat) : Int) = C.mk w v s r x then 0 else 1 := by unfold Clo.chg; rw [hrx]
    by_cases hq : D.k ((r * C.nc + x : Nat) : Int) = C.mk w v s r x
    · obtain ⟨h', D', l7', l8', l9', i1, i2, i3, i4, i5'⟩ := ih (x + 1) t h D (some (.int (sz (fmz ((x : Int) - s * (r : Int).tdiv v) w)))) (some (.int (sz (C.mk w v s r x)))) (some (.int (sz ((r * C.nc + x : Nat) : Int)))) (by omega) hK hC (C.mid_step (by omega) hilt hm hq) (by omega)
      refine ⟨h', D', l7', l8', l9', ?_, i2, i3, i4, i5'⟩
      rw [h36_30]
      simp (disch := omega) only [q36_0, q36_1, f2, fk, sz_tdiv, e1, e2, e3, e4, e5, hx1, Option.bind_some, sz_lt0, sz_lt, sz_0lt, sz_mul, sz_add, sz_sub, sz_eq0, sz_eq, sz_nat, List.length_map, nb0, nb1, bz_eq0, ↓reduceIte, Int.reduceEq, Int.reduceLT, Int.reduceAdd, Int.reduceSub, Int.reduceMul, Int.reduceNeg]
      rw [if_pos (by omega), if_neg (by omega), if_neg (by omega), if_pos hq, nsum, hce, if_pos (by omega), Int.zero_add]
      exact i1
    · obtain ⟨h1, p1, p2, p3, p4, p5, p6⟩ := m_put (S := S) hK hC hA (i := ((r * C.nc + x : Nat) : Int)) (k := C.mk w v s r x) (by rw [hm.2.2.2.2.1]; omega) (by omega)
      obtain ⟨h', D', l7', l8', l9', i1, i2, i3, i4, i5'⟩ := ih (x + 1) (t + 1) h1 _ (some (.int (sz (fmz ((x : Int) - s * (r : Int).tdiv v) w)))) (some (.int (sz (C.mk w v s r x)))) (some (.int (sz ((r * C.nc + x : Nat) : Int)))) (by omega) p3 p2 (C.mid_set (by omega) hilt hm) (by omega)
      refine ⟨h', D', l7', l8', l9', ?_, i2, i3, i4, sx_gr.trans (show sx_gr _ 0 0 h h1 from ⟨p4, p5, p6⟩) i5'⟩
      rw [h36_30]
      simp (disch := omega) only [q36_0, q36_1, f2, fk, sz_tdiv, e1, e2, e3, e4, e5, p1, hx1, Option.bind_some, sz_lt0, sz_lt, sz_0lt, sz_mul, sz_add, sz_sub, sz_eq0, sz_eq, sz_nat, List.length_map, nb0, nb1, bz_eq0, ↓reduceIte, Int.reduceEq, Int.reduceLT, Int.reduceAdd, Int.reduceSub, Int.reduceMul, Int.reduceNeg]
      rw [if_pos (by omega), if_neg (by omega), if_neg (by omega), if_neg hq, nsum, hce, if_neg (by omega), ← Int.add_assoc]
      exact i1
theorem m_spread_r (hA : (A ≠ p ∧ A ≠ q) ∧ (B ≠ p ∧ B ≠ q) ∧ p ≠ q) (hCo : C.ok) {w v : Nat} {s : Int} (hw : 1 ≤ w ∧ w ≤ C.nc) (hv : 1 ≤ v ∧ v ≤ C.nr) (hs : -12 ≤ s ∧ s ≤ 12) : ∀ (n r : Nat) (t : Int) (h : sx_H) (D : Clo) (l6 l7 l8 l9 : Option Value), r + n = C.nr → sx_KV h K A B ws → sx_CV h K c p q D → C.mid w v s D (r * C.nc) → 0 ≤ t ∧ t ≤ 4000 - 20 * n →
    ∃ (h' : sx_H), sx_Ev S 36 18 [some (.ref c), some (.int (sz w)), some (.int (sz v)), some (.int (sz s)), some (.int (sz t)), some (.int (sz r)), l6, l7, l8, l9] [] h =
      some (.inl (some (.int (sz (t + nsum (fun r => nsum (fun x => C.chg w v s r x) 0 C.nc) r n)))), h') ∧
      sx_KV h' K A B ws ∧ sx_CV h' K c p q (C.mot w v s) ∧ sx_gr (fun a => a = p ∨ a = q) 0 0 h h' := by
  obtain ⟨⟨a1, a2⟩, ⟨a3, a4⟩, a5, a6, a7, a8⟩ := id hCo
  intro n
  induction n with
  | zero =>
    intro r t h D l6 l7 l8 l9 hr hK hC hm ht
    obtain ⟨f0, f1, f2, f3, f5, f6, f9, f10, fk, i5, i6⟩ := hC.f (S := S)
    rw [hm.2.2.1] at f3
    have : D = C.mot w v s := C.mid_end (by rw [a5, show C.nr = r by omega]; exact hm)
    subst this
    refine ⟨h, ?_, hK, hC, sx_gr.refl h⟩
    rw [h36_18]
    simp (disch := omega) only [q36_0, q36_1, f3, Option.bind_some, sz_lt0, sz_lt, sz_0lt, sz_mul, sz_add, sz_sub, sz_eq0, sz_eq, sz_nat, List.length_map, nb0, nb1, bz_eq0, ↓reduceIte, Int.reduceEq, Int.reduceLT, Int.reduceAdd, Int.reduceSub, Int.reduceMul, Int.reduceNeg]
    rw [if_neg (by omega)]
    simp [nsum]
  | succ n ih =>
    intro r t h D l6 l7 l8 l9 hr hK hC hm ht
    obtain ⟨f0, f1, f2, f3, f5, f6, f9, f10, fk, i5, i6⟩ := hC.f (S := S)
    rw [hm.2.2.1] at f3
    have hb := nsum_bd (f := fun x => C.chg w v s r x) (a := 0) (b := 1) (by omega) (by omega) C.nc 0 (fun j _ _ => C.chg_bd w v s r j)
    obtain ⟨h1, D1, l7', l8', l9', e1, e2, e3, e4, e5⟩ := m_spread_x (S := S) hA hCo hw hv hs (r := r) (by omega) C.nc 0 t h D l7 l8 l9 (by omega) hK hC hm (by omega)
    obtain ⟨h2, g1, g2, g3, g4⟩ := ih (r + 1) (t + nsum (fun x => C.chg w v s r x) 0 C.nc) h1 D1 _ l7' l8' l9' (by omega) e2 e3 e4 (by omega)
    refine ⟨h2, ?_, g2, g3, e5.trans g4⟩
    rw [h36_18]
    simp (disch := omega) only [q36_0, q36_1, f3, Option.bind_some, sz_lt0, sz_lt, sz_0lt, sz_mul, sz_add, sz_sub, sz_eq0, sz_eq, sz_nat, List.length_map, nb0, nb1, bz_eq0, ↓reduceIte, Int.reduceEq, Int.reduceLT, Int.reduceAdd, Int.reduceSub, Int.reduceMul, Int.reduceNeg]
    rw [if_pos (by omega), nsum, ← Int.add_assoc]
    exact e1.trans g1
theorem m_spread (hA : (A ≠ p ∧ A ≠ q) ∧ (B ≠ p ∧ B ≠ q) ∧ p ≠ q) (hK : sx_KV h K A B ws) (hC : sx_CV h K c p q C) {w v : Nat} {s : Int} (hw : 1 ≤ w ∧ w ≤ C.nc) (hv : 1 ≤ v ∧ v ≤ C.nr) (hs : -12 ≤ s ∧ s ≤ 12) :
    ∃ (h' : sx_H), sx_Cl S 36 [.ref c, .int (sz w), .int (sz v), .int (sz s)] h = some (.inl (some (.int (sz (C.motn w v s)))), h') ∧
      sx_KV h' K A B ws ∧ sx_CV h' K c p q (C.mot w v s) ∧ sx_gr (fun a => a = p ∨ a = q) 0 0 h h' := by
  obtain ⟨⟨a1, a2⟩, ⟨a3, a4⟩, a5, a6, a7, a8⟩ := id hC.1
  obtain ⟨h1, e1, e2, e3, e4⟩ := m_spread_r (S := S) hA hC.1 hw hv hs C.nr 0 0 h C none none none none (by omega) hK hC ⟨rfl, rfl, rfl, rfl, rfl, fun j hj => by rw [Nat.zero_mul, if_neg (by omega)]⟩ (by omega)
  refine ⟨h1, ?_, e2, e3, e4⟩
  simp (disch := omega) only [c36_q, q36_0, q36_1, Option.bind_some, sz_lt0, sz_lt, sz_0lt, sz_mul, sz_add, sz_sub, sz_eq0, sz_eq, sz_nat, List.length_map, nb0, nb1, bz_eq0, ↓reduceIte, Int.reduceEq, Int.reduceLT, Int.reduceAdd, Int.reduceSub, Int.reduceMul, Int.reduceNeg]
  rw [if_neg (by omega), if_neg (by omega)]
  refine e1.trans ?_
  rw [Int.zero_add]
  rfl
end SXS
