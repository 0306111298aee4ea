/-! THE LAW: the three copies are made -/
/-- one cloth, the law's widths and its cells -/
def sx_L1 (h : sx_H) (ws wl : List Int) (c a : Nat) (C : Clo) (N : Nat) : Prop :=
  sx_BV h 4 9999 ws [(c, C)] ∧ (sx_get h 17 = some (.inl (wl.map sz)) ∧ wl.length = 4 ∧ (∀ j, j < 4 → wl.getD j 0 = ws.getD j 0) ∧ (∀ w ∈ ws, 0 ≤ w ∧ w ≤ 100)) ∧ sx_get h a = some (.inl (C.ks.map sz)) ∧ (20 ≤ c ∧ c + 7 ≤ a) ∧ (C.nc ≤ 6 ∧ C.nr ≤ 5) ∧ h.1.length ≤ N ∧ h.2 ≤ N
theorem nsum_0 {f : Nat → Int} : ∀ (n i : Nat), (∀ j, i ≤ j → j < i + n → f j = 0) → nsum f i n = 0 := by
  intro n
  induction n with
  | zero => intro i _; rfl
  | succ n ih =>
    intro i hf
    rw [nsum, hf i (Nat.le_refl _) (by omega), ih (i + 1) (fun j h1 h2 => hf j (by omega) (by omega)), Int.zero_add]
theorem neu_kk (st : Int) (nc nr j : Nat) (hj : j < nr * nc) : (Clo.neu st nc nr).ks.getD j 0 = -1 := by
  show (List.replicate (nr * nc) (-1 : Int)).getD j 0 = -1
  rw [List.getD_eq_getElem?_getD, List.getElem?_replicate, if_pos hj]
  rfl
section SXE2'
variable {S : List Int32} {h : sx_H} {ws wl : List Int} {c a N : Nat} {C : Clo}
theorem L_P {l10 l11 l12 l13 l14 l15 l16 l17 l18 l19 l20 l21 l22 l23 l24 l25 l26 l27 l28 l29 l30 l31 l32 : Option Value} (hS : S.length ≤ 260) (hL : sx_L1 h ws wl c a C N) (hN : N ≤ 500000) : sx_OK S 1978 [some (.ref 0), some (.ref 2), some (.ref 17), some (.ref 18), some (.ref 19), some (.int (sz C.st)), some (.int (sz C.nc)), some (.int (sz C.nr)), some (.int (sz 1)), some (.ref a), l10, l11, l12, l13, l14, l15, l16, l17, l18, l19, l20, l21, l22, l23, l24, l25, l26, l27, l28, l29, l30, l31, l32] h := by
  obtain ⟨hB, hw, ha, hadd, hdim, hn1, hn2⟩ := hL
  obtain ⟨f0, f1, f3, f4, f5, f6, f8, f10, f11, k2, k3, k11, k13, k15, hl⟩ := hB.g
  have hC := (hB.cl (i := 0) ⟨by decide, rfl⟩).2.1
  obtain ⟨a1, a2, a5, a6, a7, a8⟩ := id hC
  have hm := mulN_bd (a := C.nc) (b := C.nr) (by omega) (by omega)
  have hm2 := mulN_bd (a := C.nc) (b := C.nr + 1) (by omega) (by omega)
  have hm3 : 2 * C.nc * C.nr = 2 * (C.nc * C.nr) := Nat.mul_assoc _ _ _
  have hm4 : 2 * C.nc * (C.nr + 1) = 2 * (C.nc * (C.nr + 1)) := Nat.mul_assoc _ _ _
  obtain ⟨h1, u1, B1, g1⟩ := w_addCloth (S := S) hB (by simp) (st := C.st) (nc := C.nc) (nr := C.nr) a8 (by omega) (by omega)
  have hc1 : a < sx_new h := (sx_get_lt ha).2
  obtain ⟨c1, ec1⟩ : ∃ c1, sx_new h = c1 := ⟨_, rfl⟩
  rw [ec1] at B1 hc1
  have n1 := g1.nw
  have B1 : sx_BV h1 4 9999 ws [(c, C), (c1, Clo.neu C.st C.nc C.nr)] := B1
  obtain ⟨h2, u2, B2, g2⟩ := w_addCloth (S := S) B1 (by simp) (st := C.st) (nc := C.nc) (nr := C.nr) a8 (by omega) (by omega)
  obtain ⟨c2, ec2⟩ : ∃ c2, sx_new h1 = c2 := ⟨_, rfl⟩
  rw [ec2] at B2
  have n2 := g2.nw
  have B2 : sx_BV h2 4 9999 ws [(c, C), (c1, Clo.neu C.st C.nc C.nr), (c2, Clo.neu C.st C.nc C.nr)] := B2
  obtain ⟨h3, u3, B3, g3⟩ := w_addCloth (S := S) B2 (by simp) (st := C.st) (nc := C.nc) (nr := C.nr + 1) a8 (by omega) (by omega)
  obtain ⟨c3, ec3⟩ : ∃ c3, sx_new h2 = c3 := ⟨_, rfl⟩
  rw [ec3] at B3
  have B3 : sx_BV h3 4 9999 ws [(c, C), (c1, Clo.neu C.st C.nc C.nr), (c2, Clo.neu C.st C.nc C.nr), (c3, Clo.neu C.st C.nc (C.nr + 1))] := B3
  have u1 : sx_Cl S 100 [.ref 2, .int (sz C.st), .int (sz C.nc), .int (sz C.nr)] h = some (.inl (some (.int (sz 1))), h1) := u1
  have u2 : sx_Cl S 100 [.ref 2, .int (sz C.st), .int (sz C.nc), .int (sz C.nr)] h1 = some (.inl (some (.int (sz 2))), h2) := u2
  have u3 : sx_Cl S 100 [.ref 2, .int (sz C.st), .int (sz C.nc), .int (sz ((C.nr + 1 : Nat) : Int))] h2 = some (.inl (some (.int (sz 3))), h3) := u3
  have hr1 : (C.nr : Int) + 1 = ((C.nr + 1 : Nat) : Int) := by omega
  have u4 := w_shared_no (S := S) B3 (i := 0) (j := 1) (k := 3) ⟨by decide, rfl⟩ ⟨by decide, rfl⟩ ⟨by decide, rfl⟩ ⟨rfl, rfl, rfl⟩ (fun q => by have q2 : C.nr = C.nr + 1 := q.2.2; omega)
  have B4 := B3.exc
  have u5 := w_shared (S := S) B4 (i := 0) (j := 0) (k := 0) ⟨by decide, rfl⟩ ⟨by decide, rfl⟩ ⟨by decide, rfl⟩ ⟨rfl, rfl, rfl⟩ ⟨rfl, rfl, rfl⟩
  have hz : nshared C C C = 0 := nsum_0 _ _ fun j _ _ => if_neg fun q => q.2.2.2 rfl
  rw [hz] at u5
  have g4 : sx_gr (fun a => a = 2 ∨ a = 9) 1 6 h3 (sx_push h3 none 6) := sx_gr.push h3 none 6
  have gall := g1.trans (g2.trans (g3.trans g4))
  have hL4 : sx_L4 (sx_push h3 none 6) ws c a c1 c2 c3 C (Clo.neu C.st C.nc C.nr) (Clo.neu C.st C.nc C.nr) (Clo.neu C.st C.nc (C.nr + 1)) (N + 3000) := ⟨B4, gall.1.2.2 _ _ (by omega) ha, by omega, hdim, ⟨rfl, rfl, rfl⟩, ⟨rfl, rfl, rfl⟩, by rw [gall.2.1]; omega, by rw [gall.2.2]; omega⟩
  have nx : ∀ l26 l27, sx_OK S 2060 [some (.ref 0), some (.ref 2), some (.ref 17), some (.ref 18), some (.ref 19), some (.int (sz C.st)), some (.int (sz C.nc)), some (.int (sz C.nr)), some (.int (sz 1)), some (.ref a), l10, l11, l12, l13, l14, l15, l16, l17, l18, l19, l20, l21, l22, l23, some (.int (sz (nsum (fun j => sh (C.ks.getD j 0) ((Clo.neu C.st C.nc C.nr).ks.getD j 0) ((Clo.neu C.st C.nc C.nr).ks.getD j 0)) 0 0))), some (.int (sz ((0 : Nat) : Int))), l26, l27, l28, l29, l30, l31, l32] (sx_push h3 none 6) := fun l26 l27 => L_Q hS (Nat.zero_le _) hL4 (by omega) (fun j h1 h2 => by rw [neu_kk _ _ _ _ (by rw [← a5]; exact h2)]; exact ⟨rfl, rfl⟩) (fun j hj => by omega)
  unfold sx_OK at nx ⊢
  simp (maxSteps := 2000000) (disch := omega) only [e121_1978, e121_1980, e121_1981, e121_1983, e121_1985, e121_1987, e121_1990, e121_1991, e121_1994, e121_1995, e121_1997, e121_1999, e121_2001, e121_2004, e121_2005, e121_2008, e121_2009, e121_2011, e121_2013, e121_2015, e121_2016, e121_2017, e121_2020, e121_2021, e121_2024, e121_2025, e121_2026, e121_2027, e121_2028, e121_2031, e121_2033, e121_2036, e121_2037, e121_2038, e121_2039, e121_2040, e121_2043, e121_2046, e121_2047, e121_2050, e121_2051, e121_2052, e121_2054, e121_2055, e121_2057, e121_2058, u1, u2, hr1, u3, u4, u5, sz_and11, Option.bind_some, sz_lt0, sz_lt, sz_0lt, sz_mul, sz_add, sz_sub, sz_eq0, sz_eq, sz_nat, List.length_map, nb0, nb1, bz_eq0, ↓reduceIte, Int.reduceEq, Int.reduceLT, Int.reduceAdd, Int.reduceSub, Int.reduceMul, Int.reduceNeg]
  exact nx _ _
end SXE2'
