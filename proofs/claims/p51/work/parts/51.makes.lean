/-! THE LAW'S OWN METHODS: makes -/
theorem nat_tdiv (m n : Nat) : (m : Int).tdiv n = ((m / n : Nat) : Int) := (Int.ofNat_tdiv m n).symm
theorem nat_tmod (m n : Nat) : (m : Int) - ((m / n : Nat) : Int) * n = ((m % n : Nat) : Int) := by
  have := Nat.div_add_mod m n
  rw [Nat.mul_comm] at this
  have h2 : ((m / n * n + m % n : Nat) : Int) = m := by rw [this]
  rw [Int.natCast_add, Int.natCast_mul] at h2
  omega
theorem nat_tdiv2 (m : Nat) : (m : Int).tdiv 2 = ((m / 2 : Nat) : Int) := nat_tdiv m 2
theorem nat_tdiv3 (m : Nat) : (m : Int).tdiv 3 = ((m / 3 : Nat) : Int) := nat_tdiv m 3
theorem nat_tmod2 (m : Nat) : (m : Int) - ((m / 2 : Nat) : Int) * 2 = ((m % 2 : Nat) : Int) := nat_tmod m 2
theorem nat_tmod3 (m : Nat) : (m : Int) - ((m / 3 : Nat) : Int) * 3 = ((m % 3 : Nat) : Int) := nat_tmod m 3
theorem sz_and11 : sz 1 &&& sz 1 = sz 1 := by decide
section SXMK
variable {S : List Int32} {h : sx_H}
theorem sx_BV.keep {h1 : sx_H} {n : Nat} {tl : Int} {ws : List Int} {L : List (Nat × Clo)} {P : Nat → Prop} (hB : sx_BV h n tl ws L) (hk : sx_kp P h h1) (hP : ∀ a, a < 17 → ¬ P a) (hL : ∀ (i c : Nat) (C : Clo), L[i]? = some (c, C) → ∀ a, c ≤ a → a < c + 7 → ¬ P a) : sx_BV h1 n tl ws L :=
  hB.kp hk hP fun i c C hi => ⟨hL i c C hi _ (by omega) (by omega), hL i c C hi _ (by omega) (by omega), hL i c C hi _ (by omega) (by omega)⟩
theorem m_makes_l (hS : S.length ≤ 260) : ∀ (n k : Nat) (h : sx_H) (ws wl hl pl : List Int), k + n = 4 → sx_BV h k 9999 ws [] → sx_get h 17 = some (.inl (wl.map sz)) → sx_get h 18 = some (.inl (hl.map sz)) → sx_get h 19 = some (.inl (pl.map sz)) → wl.length = 4 ∧ hl.length = 4 ∧ pl.length = 4 → (∀ j, j < k → wl.getD j 0 = ws.getD j 0) → (∀ w ∈ ws, 0 ≤ w ∧ w ≤ 100) → (∀ w ∈ wl, 0 ≤ w ∧ w ≤ 100) →
    ∃ (h' : sx_H) (ws' wl' : List Int), sx_Ev S 118 23 [some (.ref 2), some (.ref 0), some (.ref 17), some (.ref 18), some (.ref 19), some (.int (sz 1)), some (.int (sz k))] [] h = some (.inl (some (.int (sz 1))), h') ∧
      sx_BV h' 4 9999 ws' [] ∧ sx_get h' 17 = some (.inl (wl'.map sz)) ∧ wl'.length = 4 ∧ (∀ j, j < 4 → wl'.getD j 0 = ws'.getD j 0) ∧ (∀ w ∈ ws', 0 ≤ w ∧ w ≤ 100) ∧ (∀ w ∈ wl', 0 ≤ w ∧ w ≤ 100) ∧ sx_gr (fun a => (3 ≤ a ∧ a ≤ 7) ∨ 17 ≤ a ∧ a ≤ 19) 0 0 h h' := by
  have n1 := nb1
  intro n
  induction n with
  | zero =>
    intro k h ws wl hl pl hk hB h17 h18 h19 hlen hw hb hb2
    have : k = 4 := by omega
    subst this
    refine ⟨h, ws, wl, ?_, hB, h17, hlen.1, hw, hb, hb2, sx_gr.refl h⟩
    rw [h118_23]
    simp (disch := omega) only [e118_25, e118_26, e118_29, e118_30, e118_32, e118_34, e118_35, e118_38, e118_40, e118_41, e118_43, e118_46, e118_47, e118_48, e118_49, e118_51, e118_52, e118_53, e118_56, e118_58, e118_59, e118_61, e118_64, e118_65, e118_66, e118_68, e118_70, e118_71, e118_74, e118_76, e118_77, e118_79, e118_82, e118_83, e118_85, e118_86, e118_88, e118_89, e118_90, e118_91, e118_93, e118_94, e118_95, e118_97, e118_98, e118_100, e118_102, e118_103, e118_106, e118_108, e118_111, e118_112, e118_115, e118_116, e118_117, e118_119, e118_122, e118_125, e118_127, Option.bind_some, sz_lt0, sz_lt, sz_0lt, sz_mul, sz_add, sz_sub, sz_eq0, sz_eq, sz_nat, List.length_map, nb0, nb1, bz_eq0, ↓reduceIte, Int.reduceEq, Int.reduceLT, Int.reduceAdd, Int.reduceSub, Int.reduceMul, Int.reduceNeg]
    rfl
  | succ n ih =>
    intro k h ws wl hl pl hk hB h17 h18 h19 hlen hw hb hb2
    have hk1 : (k : Int) + 1 = ((k + 1 : Nat) : Int) := by omega
    have hkn : (k : Int).toNat = k := by omega
    obtain ⟨v1, hv1, i1⟩ := m_in (S := S) (i := 400 + k) (n := 23) (by omega) (by omega) (by omega)
    obtain ⟨v2, hv2, i2⟩ := m_in (S := S) (i := 410 + k) (n := 8) (by omega) (by omega) (by omega)
    obtain ⟨v3, hv3, i3⟩ := m_in (S := S) (i := 420 + k) (n := 100) (by omega) (by omega) (by omega)
    obtain ⟨h1, p1, q1, g1⟩ := sx_wi (x := (k : Int)) (v := 8 + v1) h17 (by omega) (by omega)
    obtain ⟨h2, p2, q2, g2⟩ := sx_wi (x := (k : Int)) (v := 2 + v2) (g1.1.2.2 _ _ (by decide) h18) (by omega) (by omega)
    obtain ⟨h3, p3, q3, g3⟩ := sx_wi (x := (k : Int)) (v := v3) (g2.1.2.2 _ _ (by decide) (g1.1.2.2 _ _ (by decide) h19)) (by omega) (by omega)
    rw [hkn] at q1 q2 q3
    have q1c := g3.1.2.2 _ _ (by decide) (g2.1.2.2 _ _ (by decide) q1)
    have q2c := g3.1.2.2 _ _ (by decide) q2
    have r1 := sx_rd_of (S := S) (x := (k : Int)) q1c (by rw [List.length_set]; omega) (by rw [List.length_set]; omega)
    have r2 := sx_rd_of (S := S) (x := (k : Int)) q2c (by rw [List.length_set]; omega) (by rw [List.length_set]; omega)
    have r3 := sx_rd_of (S := S) (x := (k : Int)) q3 (by rw [List.length_set]; omega) (by rw [List.length_set]; omega)
    rw [hkn, sx_getD_set _ _ _ _ (by omega), if_pos rfl] at r1 r2 r3
    have g123 : sx_gr (fun a => 17 ≤ a ∧ a ≤ 19) 0 0 h h3 := (g1.mono fun a (q : a = 17) => by omega).trans ((g2.mono fun a (q : a = 18) => by omega).trans (g3.mono fun a (q : a = 19) => by omega))
    have hB3 : sx_BV h3 k 9999 ws [] := hB.keep g123.1 (fun a ha q => by omega) (fun i c C hi => by simp at hi)
    obtain ⟨h4, p4, B4, g4⟩ := w_addKind (S := S) hB3 (by omega) (u := ((k % 3 : Nat) : Int)) (v := 8 + v1) (w := 2 + v2) (z := v3) rfl (by omega) (by omega) (by omega)
    have wlen : ws.length = 8 := hB.2.2.1.2.2.2.1
    obtain ⟨h', ws', wl', e1, e2, e3, e4, e5, e6, e7, e8⟩ := ih (k + 1) h4 (ws.set k (8 + v1)) (wl.set k (8 + v1)) (hl.set k (2 + v2)) (pl.set k v3) (by omega) B4 (g4.1.2.2 _ _ (by decide) q1c) (g4.1.2.2 _ _ (by decide) q2c) (g4.1.2.2 _ _ (by decide) q3) (by simp only [List.length_set]; exact hlen)
      (fun j hj => by
        rw [sx_getD_set _ _ _ _ (by omega), sx_getD_set _ _ _ _ (by omega)]
        by_cases q : k = j
        · rw [if_pos q, if_pos q]
        · rw [if_neg q, if_neg q]; exact hw j (by omega))
      (fun w hw => by
        rcases List.mem_or_eq_of_mem_set hw with q | q
        · exact hb w q
        · rw [q]; omega)
      (fun w hw => by
        rcases List.mem_or_eq_of_mem_set hw with q | q
        · exact hb2 w q
        · rw [q]; omega)
    refine ⟨h', ws', wl', ?_, e2, e3, e4, e5, e6, e7, (g123.mono fun a q => Or.inr q).trans ((g4.mono fun a q => Or.inl q).trans e8)⟩
    rw [h118_23]
    simp (disch := omega) only [e118_25, e118_26, e118_29, e118_30, e118_32, e118_34, e118_35, e118_38, e118_40, e118_41, e118_43, e118_46, e118_47, e118_48, e118_49, e118_51, e118_52, e118_53, e118_56, e118_58, e118_59, e118_61, e118_64, e118_65, e118_66, e118_68, e118_70, e118_71, e118_74, e118_76, e118_77, e118_79, e118_82, e118_83, e118_85, e118_86, e118_88, e118_89, e118_90, e118_91, e118_93, e118_94, e118_95, e118_97, e118_98, e118_100, e118_102, e118_103, e118_106, e118_108, e118_111, e118_112, e118_115, e118_116, e118_117, e118_119, e118_122, e118_125, e118_127, i1, i2, i3, p1, p2, p3, r1, r2, r3, sz_tdiv, nat_tdiv3, nat_tmod3, p4, sz_and11, hk1, Option.bind_some, sz_lt0, sz_lt, sz_0lt, sz_mul, sz_add, sz_sub, sz_eq0, sz_eq, sz_nat, List.length_map, nb0, nb1, bz_eq0, ↓reduceIte, Int.reduceEq, Int.reduceLT, Int.reduceAdd, Int.reduceSub, Int.reduceMul, Int.reduceNeg]
    rw [if_pos (by omega)]
    exact e1
theorem m_makes (hS : S.length ≤ 260) {ws wl hl pl : List Int} (hB : sx_BV h 0 0 ws []) (h17 : sx_get h 17 = some (.inl (wl.map sz))) (h18 : sx_get h 18 = some (.inl (hl.map sz))) (h19 : sx_get h 19 = some (.inl (pl.map sz))) (hlen : wl.length = 4 ∧ hl.length = 4 ∧ pl.length = 4) (hb : ∀ w ∈ ws, 0 ≤ w ∧ w ≤ 100) (hb2 : ∀ w ∈ wl, 0 ≤ w ∧ w ≤ 100) :
    ∃ (h' : sx_H) (ws' wl' : List Int), sx_Cl S 118 [.ref 2, .ref 0, .ref 17, .ref 18, .ref 19] h = some (.inl (some (.int (sz 1))), h') ∧
      sx_BV h' 4 9999 ws' [] ∧ sx_get h' 17 = some (.inl (wl'.map sz)) ∧ wl'.length = 4 ∧ (∀ j, j < 4 → wl'.getD j 0 = ws'.getD j 0) ∧ (∀ w ∈ ws', 0 ≤ w ∧ w ≤ 100) ∧ (∀ w ∈ wl', 0 ≤ w ∧ w ≤ 100) ∧ sx_gr (fun a => (2 ≤ a ∧ a ≤ 7) ∨ 17 ≤ a ∧ a ≤ 19) 0 0 h h' := by
  obtain ⟨h1, p1, B1, g1⟩ := w_thread (S := S) hB
  obtain ⟨h', ws', wl', e1, e2, e3, e4, e5, e6, e7, e8⟩ := m_makes_l (S := S) hS 4 0 h1 ws wl hl pl (by omega) B1 (g1.1.2.2 _ _ (by decide) h17) (g1.1.2.2 _ _ (by decide) h18) (g1.1.2.2 _ _ (by decide) h19) hlen (fun j hj => by omega) hb hb2
  refine ⟨h', ws', wl', ?_, e2, e3, e4, e5, e6, e7, (g1.mono fun a (q : a = 2) => by omega).trans (e8.mono fun a q => by omega)⟩
  rw [c118_q]
  simp (disch := omega) only [e118_0, e118_1, e118_4, e118_7, e118_10, e118_13, e118_14, e118_17, e118_18, e118_20, e118_21, p1, Option.bind_some, sz_lt0, sz_lt, sz_0lt, sz_mul, sz_add, sz_sub, sz_eq0, sz_eq, sz_nat, List.length_map, nb0, nb1, bz_eq0, ↓reduceIte, Int.reduceEq, Int.reduceLT, Int.reduceAdd, Int.reduceSub, Int.reduceMul, Int.reduceNeg]
  exact e1
end SXMK
