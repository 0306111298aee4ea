/-! THE LAW, from its end: the copies -/
def sx_OK (S : List Int32) (pc : Nat) (ls : sx_L) (h : sx_H) : Prop := ∃ h', sx_Ev S 121 pc ls [] h = some (.inl (some (.int (sz 1))), h') ∧ h'.1.length ≤ 600104 ∧ h'.2 ≤ 600104
theorem sx_OK.of {S : List Int32} {pc pc' : Nat} {ls ls' : sx_L} {h h' : sx_H} (e : sx_OK S pc' ls' h') (q : sx_Ev S 121 pc ls [] h = sx_Ev S 121 pc' ls' [] h') : sx_OK S pc ls h := by
  obtain ⟨h2, e1, e2⟩ := e
  exact ⟨h2, q.trans e1, e2⟩
theorem tmod3 {x : Int} (h : 0 ≤ x) : x - x.tdiv 3 * 3 = x % 3 := by
  rw [Int.tdiv_eq_ediv_of_nonneg h]; omega
theorem nsum_r (f : Nat → Int) : ∀ (n i : Nat), nsum f i (n + 1) = nsum f i n + f (i + n) := by
  intro n
  induction n with
  | zero => intro i; simp [nsum]
  | succ n ih =>
    intro i
    rw [nsum, ih (i + 1), nsum, ← Int.add_assoc, show i + 1 + n = i + (n + 1) by omega]
def sh (u v w : Int) : Int := if 0 ≤ u ∧ u % 3 = v % 3 ∧ w % 3 ≠ v % 3 then 1 else 0
/-- the four cloths -/
def sx_L4 (h : sx_H) (ws : List Int) (c a c1 c2 c3 : Nat) (C C1 C2 C3 : Clo) (N : Nat) : Prop :=
  sx_BV h 4 9999 ws [(c, C), (c1, C1), (c2, C2), (c3, C3)] ∧ sx_get h a = some (.inl (C.ks.map sz)) ∧ (20 ≤ c ∧ c + 7 ≤ a ∧ a < c1 ∧ c1 + 7 ≤ c2 ∧ c2 + 7 ≤ c3) ∧ (C.nc ≤ 6 ∧ C.nr ≤ 5) ∧ (C.st = C1.st ∧ C.nc = C1.nc ∧ C.nr = C1.nr) ∧ (C.st = C2.st ∧ C.nc = C2.nc ∧ C.nr = C2.nr) ∧ h.1.length ≤ N ∧ h.2 ≤ N
theorem kk_k {C : Clo} {i : Nat} (hi : i < C.ks.length) : C.k i = C.ks.getD i 0 := by
  unfold Clo.k
  rw [if_pos (by omega)]
  rfl
theorem cl_kk {C : Clo} {i : Nat} (hi : i < C.ks.length) : C.cl i = kcol (C.ks.getD i 0) := by
  unfold Clo.cl
  rw [if_pos (by omega)]
  rfl
theorem ks_set {C : Clo} {i : Nat} {v : Int} (hi : i < C.ks.length) (j : Nat) : (C.set (i : Int) v).ks.getD j 0 = if i = j then v else C.ks.getD j 0 := sx_getD_set C.ks i j v hi
theorem kc3 {u : Int} (h : 0 ≤ u ∧ u ≤ 3) : kcol u = u % 3 := by unfold kcol; rw [if_pos (by omega)]
theorem kcn {u : Int} (h : u < 0) : kcol u = -1 := by unfold kcol; rw [if_neg (by omega)]
theorem sh_1 {C C1 C2 : Clo} (hC : C.ok) (hl1 : C1.ks.length = C.ks.length) (hl2 : C2.ks.length = C.ks.length) (h1 : ∀ j, j < C.ks.length → 0 ≤ C1.ks.getD j 0 ∧ C1.ks.getD j 0 ≤ 3) (h2 : ∀ j, j < C.ks.length → 0 ≤ C2.ks.getD j 0 ∧ C2.ks.getD j 0 ≤ 3) :
    nshared C C1 C2 = nsum (fun j => sh (C.ks.getD j 0) (C1.ks.getD j 0) (C2.ks.getD j 0)) 0 C.ks.length ∧ nshared C1 C C2 = nsum (fun j => sh (C.ks.getD j 0) (C1.ks.getD j 0) (C2.ks.getD j 0)) 0 C.ks.length := by
  unfold nshared
  rw [hl1]
  constructor
  · refine nsum_eq _ _ fun j _ hj => ?_
    have b0 := kk_bd hC j
    have b1 := h1 j (by omega)
    have b2 := h2 j (by omega)
    rw [cl_kk (C := C) (by omega), cl_kk (C := C1) (by omega), cl_kk (C := C2) (by omega), kc3 b1, kc3 b2]
    unfold sh
    generalize C.ks.getD j 0 = u at *
    generalize C1.ks.getD j 0 = v at *
    generalize C2.ks.getD j 0 = w at *
    by_cases q : u < 0
    · rw [kcn q, if_neg (by omega), if_neg (by omega)]
    · rw [kc3 (by omega)]
      by_cases q2 : u % 3 = v % 3
      · by_cases q3 : w % 3 = v % 3
        · rw [if_neg (by omega), if_neg (by omega)]
        · rw [if_pos (by omega), if_pos (by omega)]
      · rw [if_neg (by omega), if_neg (by omega)]
  · refine nsum_eq _ _ fun j _ hj => ?_
    have b0 := kk_bd hC j
    have b1 := h1 j (by omega)
    have b2 := h2 j (by omega)
    rw [cl_kk (C := C) (by omega), cl_kk (C := C1) (by omega), cl_kk (C := C2) (by omega), kc3 b1, kc3 b2]
    unfold sh
    generalize C.ks.getD j 0 = u at *
    generalize C1.ks.getD j 0 = v at *
    generalize C2.ks.getD j 0 = w at *
    by_cases q : u < 0
    · rw [kcn q, if_neg (by omega), if_neg (by omega)]
    · rw [kc3 (by omega)]
      by_cases q2 : u % 3 = v % 3
      · by_cases q3 : w % 3 = v % 3
        · rw [if_neg (by omega), if_neg (by omega)]
        · rw [if_pos (by omega), if_pos (by omega)]
      · rw [if_neg (by omega), if_neg (by omega)]
theorem nsum_sh_bd (f g k : Nat → Int) (n i : Nat) : 0 ≤ nsum (fun j => sh (f j) (g j) (k j)) i n ∧ nsum (fun j => sh (f j) (g j) (k j)) i n ≤ n := by
  have := nsum_bd (f := fun j => sh (f j) (g j) (k j)) (a := 0) (b := 1) (by omega) (by omega) n i (fun j _ _ => by unfold sh; split <;> omega)
  omega
section SXE1
variable {S : List Int32} {h : sx_H} {ws : List Int} {c a c1 c2 c3 N : Nat} {C C1 C2 C3 : Clo}
theorem L_R {t : Int} {l10 l11 l12 l13 l14 l15 l16 l17 l18 l19 l20 l21 l22 l23 l25 l26 l27 l28 l29 l30 l31 l32 : Option Value} (hL : sx_L4 h ws c a c1 c2 c3 C C1 C2 C3 N) (hN : N ≤ 600104) (ht : -1000 ≤ t ∧ t ≤ 1000) (e1 : nshared C C1 C2 = t) (e2 : nshared C1 C C2 = t) :
    sx_OK S 2194 [some (.ref 0), some (.ref 2), some (.ref 17), some (.ref 18), some (.ref 19), some (.int (sz C.st)), some (.int (sz C.nc)), some (.int (sz C.nr)), some (.int (sz 1)), some (.ref a), l10, l11, l12, l13, l14, l15, l16, l17, l18, l19, l20, l21, l22, l23, some (.int (sz t)), l25, l26, l27, l28, l29, l30, l31, l32] h := by
  obtain ⟨hB, ha, hadd, hdim, hl1, hl2, hn1, hn2⟩ := hL
  obtain ⟨f0, f1, f3, f4, f5, f6, f8, f10, f11, k2, k3, k11, k13, k15, hl⟩ := hB.g
  have n0 := nb0
  have n1 := nb1
  have w1 := w_shared (S := S) hB (i := 0) (j := 1) (k := 2) ⟨by decide, rfl⟩ ⟨by decide, rfl⟩ ⟨by decide, rfl⟩ hl1 hl2
  have w2 := w_shared (S := S) hB (i := 1) (j := 0) (k := 2) ⟨by decide, rfl⟩ ⟨by decide, rfl⟩ ⟨by decide, rfl⟩ ⟨hl1.1.symm, hl1.2.1.symm, hl1.2.2.symm⟩ ⟨hl1.1.symm.trans hl2.1, hl1.2.1.symm.trans hl2.2.1, hl1.2.2.symm.trans hl2.2.2⟩
  have w3 := m_sound (S := S) hB
  rw [e1] at w1
  rw [e2] at w2
  refine ⟨h, ?_, by omega, by omega⟩
  simp (maxSteps := 2000000) (disch := omega) only [e121_2194, e121_2196, e121_2199, e121_2200, e121_2201, e121_2202, e121_2203, e121_2206, e121_2208, e121_2211, e121_2212, e121_2213, e121_2214, e121_2215, e121_2218, e121_2220, e121_2223, e121_2224, e121_2227, e121_2230, e121_2231, e121_2234, e121_2235, w1, w2, w3, eq_self, Option.bind_some, sz_lt0, sz_lt, sz_0lt, sz_mul, sz_add, sz_sub, sz_eq0, sz_eq, sz_nat, List.length_map, nb0, nb1, bz_eq0, ↓reduceIte, Int.reduceEq, Int.reduceLT, Int.reduceAdd, Int.reduceSub, Int.reduceMul, Int.reduceNeg]
theorem L_Q {k : Nat} {l10 l11 l12 l13 l14 l15 l16 l17 l18 l19 l20 l21 l22 l23 l26 l27 l28 l29 l30 l31 l32 : Option Value} (hS : S.length ≤ 260) (hk : k ≤ C.ks.length) (hL : sx_L4 h ws c a c1 c2 c3 C C1 C2 C3 N) (hN : N ≤ 600104) (q1 : ∀ j, k ≤ j → j < C.ks.length → C1.ks.getD j 0 = -1 ∧ C2.ks.getD j 0 = -1) (q2 : ∀ j, j < k → (0 ≤ C1.ks.getD j 0 ∧ C1.ks.getD j 0 ≤ 3) ∧ 0 ≤ C2.ks.getD j 0 ∧ C2.ks.getD j 0 ≤ 3) :
    sx_OK S 2060 [some (.ref 0), some (.ref 2), some (.ref 17), some (.ref 18), some (.ref 19), some (.int (sz C.st)), some (.int (sz C.nc)), some (.int (sz C.nr)), some (.int (sz 1)), some (.ref a), l10, l11, l12, l13, l14, l15, l16, l17, l18, l19, l20, l21, l22, l23, some (.int (sz (nsum (fun j => sh (C.ks.getD j 0) (C1.ks.getD j 0) (C2.ks.getD j 0)) 0 k))), some (.int (sz k)), l26, l27, l28, l29, l30, l31, l32] h := by
  obtain ⟨n, hn⟩ : ∃ n, k + n = C.ks.length := ⟨C.ks.length - k, by omega⟩
  induction n generalizing k h C1 C2 l26 l27 with
  | zero =>
    have hkl : k = C.ks.length := by omega
    subst hkl
    have hL' := hL
    obtain ⟨hB, ha, hadd, hdim, hl1, hl2, hn1, hn2⟩ := hL'
    have hC := (hB.cl (i := 0) ⟨by decide, rfl⟩).2.1
    have hC1 := (hB.cl (i := 1) ⟨by decide, rfl⟩).2.1
    have hC2 := (hB.cl (i := 2) ⟨by decide, rfl⟩).2.1
    have hlen : C.ks.length ≤ 144 := by rw [hC.2.2.1]; exact mulN_bd hC.2.1.2 hC.1.2
    have i0 := sx_ints_of (S := S) ha
    have e := sh_1 hC (C1 := C1) (C2 := C2) (by rw [hC1.2.2.1, hC.2.2.1, hl1.2.1, hl1.2.2]) (by rw [hC2.2.2.1, hC.2.2.1, hl2.2.1, hl2.2.2]) (fun j hj => (q2 j hj).1) (fun j hj => (q2 j hj).2)
    have hb := nsum_sh_bd (fun j => C.ks.getD j 0) (fun j => C1.ks.getD j 0) (fun j => C2.ks.getD j 0) C.ks.length 0
    unfold sx_OK
    rw [h121_2060]
    simp (maxSteps := 2000000) (disch := omega) only [e121_2062, e121_2064, e121_2065, i0, Option.bind_some, sz_lt0, sz_lt, sz_0lt, sz_mul, sz_add, sz_sub, sz_eq0, sz_eq, sz_nat, List.length_map, nb0, nb1, bz_eq0, ↓reduceIte, Int.reduceEq, Int.reduceLT, Int.reduceAdd, Int.reduceSub, Int.reduceMul, Int.reduceNeg]
    rw [if_neg (by omega)]
    exact L_R hL hN (by omega) e.1 e.2
  | succ n ih =>
    obtain ⟨hB, ha, hadd, hdim, hl1, hl2, hn1, hn2⟩ := id hL
    have hC := (hB.cl (i := 0) ⟨by decide, rfl⟩).2.1
    have hC1 := (hB.cl (i := 1) ⟨by decide, rfl⟩).2.1
    have hC2 := (hB.cl (i := 2) ⟨by decide, rfl⟩).2.1
    have hle1 : C1.ks.length = C.ks.length := by rw [hC1.2.2.1, hC.2.2.1, hl1.2.1, hl1.2.2]
    have hle2 : C2.ks.length = C.ks.length := by rw [hC2.2.2.1, hC.2.2.1, hl2.2.1, hl2.2.2]
    obtain ⟨⟨a1, a2⟩, ⟨a3, a4⟩, a5, -⟩ := id hC
    have hlen : C.ks.length ≤ 144 := by rw [hC.2.2.1]; exact mulN_bd hC.2.1.2 hC.1.2
    have i0 := sx_ints_of (S := S) ha
    have hk1 : (k : Int) + 1 = ((k + 1 : Nat) : Int) := by omega
    obtain ⟨v1, hv1, p1⟩ := m_in (S := S) (i := 120 + k) (n := 4) (by omega) (by omega) (by omega)
    obtain ⟨v2, hv2, p2⟩ := m_in (S := S) (i := 160 + k) (n := 4) (by omega) (by omega) (by omega)
    have hkd : k / C.nc < C.nr := Nat.div_lt_of_lt_mul (by rw [Nat.mul_comm]; omega)
    have hkm : k % C.nc < C.nc := Nat.mod_lt _ (by omega)
    have hkd0 : (0 : Int) ≤ ((k / C.nc : Nat) : Int) := Int.natCast_nonneg _
    have hidx : ((k / C.nc : Nat) : Int) * C.nc + ((k % C.nc : Nat) : Int) = k := by have := nat_tmod k C.nc; omega
    have d1 := nat_tdiv k C.nc
    have d2 := nat_tmod k C.nc
    obtain ⟨h1, u1, B1, g1⟩ := w_draw (S := S) hB (i := 1) (c := c1) (C := C1) ⟨by decide, rfl⟩ (r := ((k / C.nc : Nat) : Int)) (x := ((k % C.nc : Nat) : Int)) (k := v1) (by rw [← hl1.2.2]; omega) (by rw [← hl1.2.1]; omega) (by omega)
    rw [← hl1.2.1, hidx, kk_k (by omega), (q1 k (by omega) (by omega)).1] at u1
    rw [← hl1.2.1, hidx] at B1
    have B1 : sx_BV h1 4 9999 ws [(c, C), (c1, C1.set k v1), (c2, C2), (c3, C3)] := B1
    obtain ⟨h2, u2, B2, g2⟩ := w_draw (S := S) B1 (i := 2) (c := c2) (C := C2) ⟨by decide, rfl⟩ (r := ((k / C.nc : Nat) : Int)) (x := ((k % C.nc : Nat) : Int)) (k := v2) (by rw [← hl2.2.2]; omega) (by rw [← hl2.2.1]; omega) (by omega)
    rw [← hl2.2.1, hidx, kk_k (by omega), (q1 k (by omega) (by omega)).2] at u2
    rw [← hl2.2.1, hidx] at B2
    have B2 : sx_BV h2 4 9999 ws [(c, C), (c1, C1.set k v1), (c2, C2.set k v2), (c3, C3)] := B2
    have ha2 := g2.1.2.2 a _ (by omega) (g1.1.2.2 a _ (by omega) ha)
    have rd := sx_rd_of (S := S) (x := (k : Int)) ha2 (by omega) (by omega)
    rw [show (k : Int).toNat = k by omega] at rd
    have hkb := kk_bd hC k
    have hz : ((C.nc : Int) = 0) = False := propext ⟨fun q => by omega, fun q => q.elim⟩
    have hL2 : sx_L4 h2 ws c a c1 c2 c3 C (C1.set k v1) (C2.set k v2) C3 N := ⟨B2, ha2, hadd, hdim, hl1, hl2, by rw [g2.2.1, g1.2.1]; omega, by rw [g2.2.2, g1.2.2]; omega⟩
    have nx : ∀ l26 l27, sx_OK S 2060 [some (.ref 0), some (.ref 2), some (.ref 17), some (.ref 18), some (.ref 19), some (.int (sz C.st)), some (.int (sz C.nc)), some (.int (sz C.nr)), some (.int (sz 1)), some (.ref a), l10, l11, l12, l13, l14, l15, l16, l17, l18, l19, l20, l21, l22, l23, some (.int (sz (nsum (fun j => sh (C.ks.getD j 0) ((C1.set k v1).ks.getD j 0) ((C2.set k v2).ks.getD j 0)) 0 (k + 1)))), some (.int (sz ((k + 1 : Nat) : Int))), l26, l27, l28, l29, l30, l31, l32] h2 := fun l26 l27 => ih (k := k + 1) (h := h2) (C1 := C1.set k v1) (C2 := C2.set k v2) (l26 := l26) (l27 := l27) (by omega) hL2
      (fun j hj1 hj2 => by rw [ks_set (by omega), ks_set (by omega), if_neg (by omega), if_neg (by omega)]; exact q1 j (by omega) hj2)
      (fun j hj => by
        rw [ks_set (by omega), ks_set (by omega)]
        by_cases q : k = j
        · rw [if_pos q, if_pos q]; omega
        · rw [if_neg q, if_neg q]; exact q2 j (by omega)) (by omega)
    have hsum : nsum (fun j => sh (C.ks.getD j 0) ((C1.set k v1).ks.getD j 0) ((C2.set k v2).ks.getD j 0)) 0 (k + 1) = nsum (fun j => sh (C.ks.getD j 0) (C1.ks.getD j 0) (C2.ks.getD j 0)) 0 k + sh (C.ks.getD k 0) v1 v2 := by
      rw [nsum_r, Nat.zero_add, ks_set (by omega), ks_set (by omega), if_pos rfl, if_pos rfl]
      congr 1
      refine nsum_eq _ _ fun j _ hj => ?_
      rw [ks_set (by omega), ks_set (by omega), if_neg (by omega), if_neg (by omega)]
    rw [hsum] at nx
    have hsb := nsum_sh_bd (fun j => C.ks.getD j 0) (fun j => C1.ks.getD j 0) (fun j => C2.ks.getD j 0) k 0
    generalize nsum (fun j => sh (C.ks.getD j 0) (C1.ks.getD j 0) (C2.ks.getD j 0)) 0 k = t at *
    unfold sx_OK at nx ⊢
    rw [h121_2060]
    have m1 := tmod3 hv1.1
    have m2 := tmod3 hv2.1
    unfold sh at nx
    generalize C.ks.getD k 0 = u at *
    simp (maxSteps := 2000000) (disch := omega) only [e121_2062, e121_2064, e121_2065, e121_2068, e121_2069, e121_2071, e121_2073, e121_2074, e121_2075, e121_2078, e121_2080, e121_2081, e121_2084, e121_2086, e121_2087, e121_2088, e121_2091, e121_2093, e121_2095, e121_2096, e121_2097, e121_2099, e121_2101, e121_2102, e121_2104, e121_2106, e121_2107, e121_2109, e121_2112, e121_2113, e121_2116, e121_2117, e121_2118, e121_2120, e121_2122, e121_2123, e121_2125, e121_2127, e121_2128, e121_2130, e121_2133, e121_2134, e121_2137, e121_2138, e121_2141, e121_2142, e121_2143, e121_2145, e121_2147, e121_2149, e121_2151, e121_2152, e121_2155, e121_2157, e121_2159, e121_2160, e121_2161, e121_2162, e121_2164, e121_2165, e121_2166, e121_2169, e121_2171, e121_2172, e121_2173, e121_2175, e121_2176, e121_2177, e121_2180, e121_2181, e121_2184, e121_2185, e121_2186, e121_2188, e121_2191, i0, p1, p2, sz_tdiv, d1, d2, hz, u1, u2, rd, hk1, sz_and11, m1, m2, Option.bind_some, sz_lt0, sz_lt, sz_0lt, sz_mul, sz_add, sz_sub, sz_eq0, sz_eq, sz_nat, List.length_map, nb0, nb1, bz_eq0, ↓reduceIte, Int.reduceEq, Int.reduceLT, Int.reduceAdd, Int.reduceSub, Int.reduceMul, Int.reduceNeg]
    rw [if_pos (by omega)]
    by_cases q : u < 0
    · rw [if_pos q]
      rw [if_neg (by omega), Int.add_zero] at nx
      rw [Int.add_zero]
      exact nx _ _
    · have m0 := tmod3 (x := u) (by omega)
      have m3 := rem_bd (a := u) (b := 3) (by omega)
      rw [if_neg q]
      simp (disch := omega) only [m0, sz_eq]
      by_cases q2 : u % 3 = v1 % 3
      · rw [if_pos q2]
        by_cases q3 : v2 % 3 = v1 % 3
        · rw [if_pos q3]
          rw [if_neg (by omega), Int.add_zero] at nx
          rw [Int.add_zero]
          exact nx _ _
        · rw [if_neg q3]
          rw [if_pos (by omega)] at nx
          exact nx _ _
      · rw [if_neg q2]
        rw [if_neg (by omega), Int.add_zero] at nx
        rw [Int.add_zero]
        exact nx _ _
end SXE1
