/-! THE LAW: the rows, one after the other -/
section SXO2
variable {S : List Int32} {h : sx_H} {ws wl : List Int} {c a N : Nat} {C : Clo}
theorem L1_gr {h1 : sx_H} {P : Nat → Prop} {d e : Nat} (hL : sx_L1 h ws wl c a C N) (g : sx_gr P d e h h1) (hP : ∀ x, P x → a < x) : sx_L1 h1 ws wl c a C (N + d + e) := by
  obtain ⟨hB, ⟨w1, w2, w3, w4⟩, ha, hadd, hdim, hn1, hn2⟩ := hL
  refine ⟨hB.keep g.1 (fun x hx q => by have := hP x q; omega) (fun i d D hi x h1 h2 q => ?_), ⟨g.1.2.2 _ _ (fun q => by have := hP _ q; omega) w1, w2, w3, w4⟩, g.1.2.2 _ _ (fun q => by have := hP _ q; omega) ha, hadd, hdim, by rw [g.2.1]; omega, by rw [g.2.2]; omega⟩
  have := hP x q
  match i, hi with
  | 0, hi => cases hi; omega
  | i + 1, hi => simp at hi
theorem L1_exc (hL : sx_L1 h ws wl c a C N) : sx_L1 (sx_push h none 6) ws wl c a C (N + 1 + 6) := L1_gr (P := fun _ => False) hL (sx_gr.push h none 6) (fun _ q => q.elim)
theorem L1_mono {M : Nat} (hL : sx_L1 h ws wl c a C N) (hM : N ≤ M) : sx_L1 h ws wl c a C M := by
  obtain ⟨hB, hw, ha, hadd, hdim, hn1, hn2⟩ := hL
  exact ⟨hB, hw, ha, hadd, hdim, by omega, by omega⟩
theorem L_Oi (hS : S.length ≤ 260) (hL : sx_L1 h ws wl c a C N) {r : Nat} (hr : r < C.nr) : ∀ (n x b : Nat) (t1 t2 t3 : Int) {l10 l11 l12 l13 l14 l15 l16 l17 l18 l19 l20 l21 l22 l23 l29 l30 l31 l32 : Option Value}, x + n = C.nc → C.rin r x b t1 t3 → t2 = nsum (fun x => C.wdt ws r x) 0 x →
    ∃ l27' l29' l30' l31', sx_Ev S 121 1370 [some (.ref 0), some (.ref 2), some (.ref 17), some (.ref 18), some (.ref 19), some (.int (sz C.st)), some (.int (sz C.nc)), some (.int (sz C.nr)), some (.int (sz 1)), some (.ref a), l10, l11, l12, l13, l14, l15, l16, l17, l18, l19, l20, l21, l22, l23, some (.int (sz r)), some (.int (sz t1)), some (.int (sz t2)), some (.int (sz t3)), some (.int (sz x)), l29, l30, l31, l32] [] h =
    sx_Ev S 121 1706 [some (.ref 0), some (.ref 2), some (.ref 17), some (.ref 18), some (.ref 19), some (.int (sz C.st)), some (.int (sz C.nc)), some (.int (sz C.nr)), some (.int (sz 1)), some (.ref a), l10, l11, l12, l13, l14, l15, l16, l17, l18, l19, l20, l21, l22, l23, some (.int (sz r)), some (.int (sz (C.runs r))), some (.int (sz (C.wid ws r))), l27', some (.int (sz C.nc)), l29', l30', l31', l32] [] h := by
  have hC := L1_ok hL
  have hdim := hL.2.2.2.2.1
  intro n
  induction n with
  | zero =>
    intro x b t1 t2 t3 l10 l11 l12 l13 l14 l15 l16 l17 l18 l19 l20 l21 l22 l23 l29 l30 l31 l32 hx hin ht
    refine ⟨some (.int (sz t3)), l29, l30, l31, ?_⟩
    have hxe : x = C.nc := by omega
    subst hxe
    have e1 : t1 = C.runs r := hin.2.2.1
    have e2 : t2 = C.wid ws r := ht
    rw [← e1, ← e2, h121_1370]
    simp (maxSteps := 2000000) (disch := omega) only [e121_1372, e121_1374, Option.bind_some, sz_lt0, sz_lt, sz_0lt, sz_mul, sz_add, sz_sub, sz_eq0, sz_eq, sz_nat, List.length_map, nb0, nb1, bz_eq0, ↓reduceIte, Int.reduceEq, Int.reduceLT, Int.reduceAdd, Int.reduceSub, Int.reduceMul, Int.reduceNeg]
    rw [if_neg (by omega)]
  | succ n ih =>
    intro x b t1 t2 t3 l10 l11 l12 l13 l14 l15 l16 l17 l18 l19 l20 l21 l22 l23 l29 l30 l31 l32 hx hin ht
    have hxl : x < C.nc := by omega
    have hkb := kk_bd hC (r * C.nc + x)
    have g0 := gk_3 hC (r * C.nc + x)
    have hgk := g_gk (C := C) hr hxl
    obtain ⟨b', hin', hb'⟩ := C.rin_step (k := C.ks.getD (r * C.nc + x) 0) hxl hin (by rw [hgk]; omega)
    obtain ⟨m27, m29, m30, m31, e⟩ := @ih (x + 1) b' _ (t2 + C.wdt ws r x) _ l10 l11 l12 l13 l14 l15 l16 l17 l18 l19 l20 l21 l22 l23 (some (.int (sz (C.ks.getD (r * C.nc + x) 0)))) (some (.int (sz (bz (C.go r x))))) (some (.int (sz (bz (C.beg r x true))))) l32 (by omega) hin' (by rw [nsum_r', Nat.zero_add, ht])
    refine ⟨m27, m29, m30, m31, ?_⟩
    rw [L_O1 hL hr hxl, L_O2 hL hr hxl, L_O3 hkb, L_O4 hkb, L_O5 hL hr hxl, L_O6 hS hL hr hxl hin' hb']
    exact e
/-- how often a colour stands in step, before x -/
def Clo.stp (C : Clo) (r at_ by_ d : Int) (x : Nat) : Int := nsum (fun o => if (o : Int) ≠ at_ ∧ ((o : Int) - at_) - ((o : Int) - at_).tdiv by_ * by_ = 0 ∧ C.g r o = d then 1 else 0) 0 x
theorem Clo.stp_bd (C : Clo) (r at_ by_ d : Int) (x : Nat) : 0 ≤ C.stp r at_ by_ d x ∧ C.stp r at_ by_ d x ≤ x := by
  have := nsum_bd (f := fun o : Nat => if (o : Int) ≠ at_ ∧ ((o : Int) - at_) - ((o : Int) - at_).tdiv by_ * by_ = 0 ∧ C.g r o = d then (1 : Int) else 0) (a := 0) (b := 1) (by omega) (by omega) x 0 (fun j _ _ => by split <;> omega)
  unfold Clo.stp
  omega
theorem L_Og (hL0 : C.ok) (hdim : C.nc ≤ 6 ∧ C.nr ≤ 5) {r b : Nat} (hr : r < C.nr) (hab : b ≠ a) {at_ : Nat} {by_ : Int} (hat : at_ < C.nc) (hby : 1 ≤ by_ ∧ by_ ≤ 4) : ∀ (n x : Nat) (h : sx_H) {l10 l11 l12 l13 l14 l15 l16 l17 l18 l19 l20 l21 l22 l23 l25 l26 l27 l32 : Option Value}, x + n = C.nc → sx_get h a = some (.inl (C.ks.map sz)) → sx_get h b = some (.inl ([C.stp r at_ by_ 0 x, C.stp r at_ by_ 1 x, C.stp r at_ by_ 2 x].map sz)) →
    ∃ (h' : sx_H) (l32' : Option Value), sx_Ev S 121 1804 [some (.ref 0), some (.ref 2), some (.ref 17), some (.ref 18), some (.ref 19), some (.int (sz C.st)), some (.int (sz C.nc)), some (.int (sz C.nr)), some (.int (sz 1)), some (.ref a), l10, l11, l12, l13, l14, l15, l16, l17, l18, l19, l20, l21, l22, l23, some (.int (sz r)), l25, l26, l27, some (.int (sz by_)), some (.int (sz at_)), some (.ref b), some (.int (sz x)), l32] [] h =
    sx_Ev S 121 1879 [some (.ref 0), some (.ref 2), some (.ref 17), some (.ref 18), some (.ref 19), some (.int (sz C.st)), some (.int (sz C.nc)), some (.int (sz C.nr)), some (.int (sz 1)), some (.ref a), l10, l11, l12, l13, l14, l15, l16, l17, l18, l19, l20, l21, l22, l23, some (.int (sz r)), l25, l26, l27, some (.int (sz by_)), some (.int (sz at_)), some (.ref b), some (.int (sz C.nc)), l32'] [] h' ∧
    sx_get h' b = some (.inl ([C.step r at_ by_ 0, C.step r at_ by_ 1, C.step r at_ by_ 2].map sz)) ∧ sx_gr (· = b) 0 0 h h' := by
  intro n
  induction n with
  | zero =>
    intro x h l10 l11 l12 l13 l14 l15 l16 l17 l18 l19 l20 l21 l22 l23 l25 l26 l27 l32 hx ha hb
    have hxe : x = C.nc := by omega
    subst hxe
    refine ⟨h, l32, ?_, hb, sx_gr.refl h⟩
    rw [h121_1804]
    simp (maxSteps := 2000000) (disch := omega) only [e121_1806, e121_1808, Option.bind_some, sz_lt0, sz_lt, sz_0lt, sz_mul, sz_add, sz_sub, sz_eq0, sz_eq, sz_nat, List.length_map, nb0, nb1, bz_eq0, ↓reduceIte, Int.reduceEq, Int.reduceLT, Int.reduceAdd, Int.reduceSub, Int.reduceMul, Int.reduceNeg]
    rw [if_neg (by omega)]
  | succ n ih =>
    intro x h l10 l11 l12 l13 l14 l15 l16 l17 l18 l19 l20 l21 l22 l23 l25 l26 l27 l32 hx ha hb
    have hxl : x < C.nc := by omega
    have hlen : C.ks.length ≤ 144 := by rw [hL0.2.2.1]; exact mulN_bd hL0.2.1.2 hL0.1.2
    have hi : r * C.nc + x < C.ks.length := by rw [hL0.2.2.1]; exact rx_lt hr hxl
    have rd := sx_rd_of (S := S) (x := ((r * C.nc + x : Nat) : Int)) ha (by omega) (by omega)
    rw [show (((r * C.nc + x : Nat) : Int)).toNat = r * C.nc + x by omega] at rd
    have hidx : (r : Int) * C.nc + x = ((r * C.nc + x : Nat) : Int) := by rw [Int.natCast_add, Int.natCast_mul]
    have hkb := kk_bd hL0 (r * C.nc + x)
    have g0 := gk_3 hL0 (r * C.nc + x)
    have hgk := g_gk (C := C) hr hxl
    have hx1 : (x : Int) + 1 = ((x + 1 : Nat) : Int) := by omega
    have hm := rem_bd (a := (x : Int) - at_) (b := by_) (by omega)
    have hm2 := rem_bd (a := (at_ : Int) - x) (b := by_) (by omega)
    have hneg : ((at_ : Int) - x) - ((at_ : Int) - x).tdiv by_ * by_ = -(((x : Int) - at_) - ((x : Int) - at_).tdiv by_ * by_) := by
      rw [show (at_ : Int) - x = -((x : Int) - at_) by omega, Int.neg_tdiv, Int.neg_mul]; omega
    have hstep : ∀ d : Int, C.stp r at_ by_ d (x + 1) = C.stp r at_ by_ d x + (if (x : Int) ≠ at_ ∧ ((x : Int) - at_) - ((x : Int) - at_).tdiv by_ * by_ = 0 ∧ C.g r x = d then 1 else 0) := fun d => by
      unfold Clo.stp
      rw [nsum_r', Nat.zero_add]
    have hbz : (by_ = 0) = False := eq_false (by omega)
    have hxlt : ((x : Int) < C.nc) = True := eq_true (by omega)
    -- nothing is counted
    have skip : ¬ ((x : Int) ≠ at_ ∧ ((x : Int) - at_) - ((x : Int) - at_).tdiv by_ * by_ = 0 ∧ 0 ≤ C.ks.getD (r * C.nc + x) 0) → ∃ (h' : sx_H) (l32' : Option Value), sx_Ev S 121 1804 [some (.ref 0), some (.ref 2), some (.ref 17), some (.ref 18), some (.ref 19), some (.int (sz C.st)), some (.int (sz C.nc)), some (.int (sz C.nr)), some (.int (sz 1)), some (.ref a), l10, l11, l12, l13, l14, l15, l16, l17, l18, l19, l20, l21, l22, l23, some (.int (sz r)), l25, l26, l27, some (.int (sz by_)), some (.int (sz at_)), some (.ref b), some (.int (sz ((x + 1 : Nat) : Int))), some (.int (sz (C.ks.getD (r * C.nc + x) 0)))] [] h =
        sx_Ev S 121 1879 [some (.ref 0), some (.ref 2), some (.ref 17), some (.ref 18), some (.ref 19), some (.int (sz C.st)), some (.int (sz C.nc)), some (.int (sz C.nr)), some (.int (sz 1)), some (.ref a), l10, l11, l12, l13, l14, l15, l16, l17, l18, l19, l20, l21, l22, l23, some (.int (sz r)), l25, l26, l27, some (.int (sz by_)), some (.int (sz at_)), some (.ref b), some (.int (sz C.nc)), l32'] [] h' ∧
        sx_get h' b = some (.inl ([C.step r at_ by_ 0, C.step r at_ by_ 1, C.step r at_ by_ 2].map sz)) ∧ sx_gr (· = b) 0 0 h h' := fun q => by
      have e : ∀ d : Int, 0 ≤ d → C.stp r at_ by_ d (x + 1) = C.stp r at_ by_ d x := fun d hd => by
        rw [hstep, if_neg (by rw [hgk]; omega), Int.add_zero]
      refine @ih (x + 1) h l10 l11 l12 l13 l14 l15 l16 l17 l18 l19 l20 l21 l22 l23 l25 l26 l27 _ (by omega) ha ?_
      rw [e 0 (by omega), e 1 (by omega), e 2 (by omega)]
      exact hb
    by_cases c1 : (x : Int) = at_
    · obtain ⟨h', l32', e1, e2, e3⟩ := skip (fun q => q.1 c1)
      refine ⟨h', l32', ?_, e2, e3⟩
      rw [← e1, h121_1804]
      simp (maxSteps := 2000000) (disch := omega) only [e121_1806, e121_1808, e121_1811, e121_1813, e121_1815, e121_1817, e121_1818, e121_1820, e121_1821, e121_1822, e121_1824, e121_1826, e121_1828, e121_1831, e121_1833, e121_1835, e121_1838, e121_1840, e121_1842, e121_1843, e121_1846, e121_1848, e121_1850, e121_1851, e121_1853, e121_1854, e121_1857, e121_1859, e121_1862, e121_1864, e121_1866, e121_1867, e121_1868, e121_1869, e121_1870, e121_1871, e121_1872, e121_1873, e121_1876, hidx, rd, hxlt, hx1, Option.bind_some, sz_lt0, sz_lt, sz_0lt, sz_mul, sz_add, sz_sub, sz_eq0, sz_eq, sz_nat, List.length_map, nb0, nb1, bz_eq0, ↓reduceIte, Int.reduceEq, Int.reduceLT, Int.reduceAdd, Int.reduceSub, Int.reduceMul, Int.reduceNeg]
      rw [if_pos c1]
    · by_cases c2 : ((x : Int) - at_) - ((x : Int) - at_).tdiv by_ * by_ = 0
      · by_cases c3 : C.ks.getD (r * C.nc + x) 0 < 0
        · obtain ⟨h', l32', e1, e2, e3⟩ := skip (fun q => by omega)
          refine ⟨h', l32', ?_, e2, e3⟩
          rw [← e1, h121_1804]
          simp (maxSteps := 2000000) (disch := omega) only [e121_1806, e121_1808, e121_1811, e121_1813, e121_1815, e121_1817, e121_1818, e121_1820, e121_1821, e121_1822, e121_1824, e121_1826, e121_1828, e121_1831, e121_1833, e121_1835, e121_1838, e121_1840, e121_1842, e121_1843, e121_1846, e121_1848, e121_1850, e121_1851, e121_1853, e121_1854, e121_1857, e121_1859, e121_1862, e121_1864, e121_1866, e121_1867, e121_1868, e121_1869, e121_1870, e121_1871, e121_1872, e121_1873, e121_1876, hidx, rd, hxlt, hx1, sz_tdiv, hbz, Option.bind_some, sz_lt0, sz_lt, sz_0lt, sz_mul, sz_add, sz_sub, sz_eq0, sz_eq, sz_nat, List.length_map, nb0, nb1, bz_eq0, ↓reduceIte, Int.reduceEq, Int.reduceLT, Int.reduceAdd, Int.reduceSub, Int.reduceMul, Int.reduceNeg]
          rw [if_neg c1]
          by_cases c4 : (at_ : Int) < x
          · rw [if_pos c4, if_pos c2, if_pos c3]
          · rw [if_neg c4, if_pos (by omega), if_pos c3]
        · -- one more of its colour
          have hgb : 0 ≤ C.g r x ∧ C.g r x ≤ 2 := by rw [hgk]; omega
          have hgm : C.ks.getD (r * C.nc + x) 0 - (C.ks.getD (r * C.nc + x) 0).tdiv 3 * 3 = C.g r x := by rw [hgk]; omega
          have s0 := C.stp_bd r at_ by_ 0 x
          have s1 := C.stp_bd r at_ by_ 1 x
          have s2 := C.stp_bd r at_ by_ 2 x
          have rd2 := sx_rd_of (S := S) (x := C.g r x) hb ⟨hgb.1, by show C.g r x < 3; omega⟩ (by show 3 ≤ 1000000000; decide)
          obtain ⟨h1, p1, q1, g1⟩ := sx_wi (x := C.g r x) (v := [C.stp r at_ by_ 0 x, C.stp r at_ by_ 1 x, C.stp r at_ by_ 2 x].getD (C.g r x).toNat 0 + 1) hb ⟨hgb.1, by show C.g r x < 3; omega⟩ (by show 3 ≤ 1000000000; decide)
          have hb1 : sx_get h1 b = some (.inl ([C.stp r at_ by_ 0 (x + 1), C.stp r at_ by_ 1 (x + 1), C.stp r at_ by_ 2 (x + 1)].map sz)) := by
            rw [q1, hstep, hstep, hstep]
            rcases (show C.g r x = 0 ∨ C.g r x = 1 ∨ C.g r x = 2 by omega) with q | q | q <;> rw [q]
            · rw [if_pos ⟨c1, c2, rfl⟩, if_neg (by omega), if_neg (by omega), Int.add_zero, Int.add_zero]; rfl
            · rw [if_neg (by omega), if_pos ⟨c1, c2, rfl⟩, if_neg (by omega), Int.add_zero, Int.add_zero]; rfl
            · rw [if_neg (by omega), if_neg (by omega), if_pos ⟨c1, c2, rfl⟩, Int.add_zero, Int.add_zero]; rfl
          obtain ⟨h', l32', e1, e2, e3⟩ := @ih (x + 1) h1 l10 l11 l12 l13 l14 l15 l16 l17 l18 l19 l20 l21 l22 l23 l25 l26 l27 (some (.int (sz (C.ks.getD (r * C.nc + x) 0)))) (by omega) (g1.1.2.2 _ _ (Ne.symm hab) ha) hb1
          refine ⟨h', l32', ?_, e2, g1.trans e3⟩
          rw [← e1, h121_1804]
          simp (maxSteps := 2000000) (disch := omega) only [e121_1806, e121_1808, e121_1811, e121_1813, e121_1815, e121_1817, e121_1818, e121_1820, e121_1821, e121_1822, e121_1824, e121_1826, e121_1828, e121_1831, e121_1833, e121_1835, e121_1838, e121_1840, e121_1842, e121_1843, e121_1846, e121_1848, e121_1850, e121_1851, e121_1853, e121_1854, e121_1857, e121_1859, e121_1862, e121_1864, e121_1866, e121_1867, e121_1868, e121_1869, e121_1870, e121_1871, e121_1872, e121_1873, e121_1876, hidx, rd, hxlt, hx1, sz_tdiv, hbz, hgm, rd2, p1, Option.bind_some, sz_lt0, sz_lt, sz_0lt, sz_mul, sz_add, sz_sub, sz_eq0, sz_eq, sz_nat, List.length_map, nb0, nb1, bz_eq0, ↓reduceIte, Int.reduceEq, Int.reduceLT, Int.reduceAdd, Int.reduceSub, Int.reduceMul, Int.reduceNeg]
          rw [if_neg c1]
          by_cases c4 : (at_ : Int) < x
          · rw [if_pos c4, if_pos c2, if_neg c3]
          · rw [if_neg c4, if_pos (by omega), if_neg c3]
      · obtain ⟨h', l32', e1, e2, e3⟩ := skip (fun q => c2 q.2.1)
        refine ⟨h', l32', ?_, e2, e3⟩
        rw [← e1, h121_1804]
        simp (maxSteps := 2000000) (disch := omega) only [e121_1806, e121_1808, e121_1811, e121_1813, e121_1815, e121_1817, e121_1818, e121_1820, e121_1821, e121_1822, e121_1824, e121_1826, e121_1828, e121_1831, e121_1833, e121_1835, e121_1838, e121_1840, e121_1842, e121_1843, e121_1846, e121_1848, e121_1850, e121_1851, e121_1853, e121_1854, e121_1857, e121_1859, e121_1862, e121_1864, e121_1866, e121_1867, e121_1868, e121_1869, e121_1870, e121_1871, e121_1872, e121_1873, e121_1876, hidx, rd, hxlt, hx1, sz_tdiv, hbz, Option.bind_some, sz_lt0, sz_lt, sz_0lt, sz_mul, sz_add, sz_sub, sz_eq0, sz_eq, sz_nat, List.length_map, nb0, nb1, bz_eq0, ↓reduceIte, Int.reduceEq, Int.reduceLT, Int.reduceAdd, Int.reduceSub, Int.reduceMul, Int.reduceNeg]
        rw [if_neg c1]
        by_cases c4 : (at_ : Int) < x
        · rw [if_pos c4, if_neg c2]
        · rw [if_neg c4, if_neg (by omega)]
end SXO2
