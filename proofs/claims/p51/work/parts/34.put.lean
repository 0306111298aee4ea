/-! WRITING a cell; a kind's colour and width; what other writings keep -/
def Clo.set (C : Clo) (i k : Int) : Clo := (C.st, C.nc, C.nr, C.ks.set i.toNat k, C.ru)
theorem Clo.set_ok {C : Clo} (hC : C.ok) (i : Int) {k : Int} (hk : -1 ≤ k ∧ k < 4) : (C.set i k).ok := by
  obtain ⟨h1, h2, h3, h4, h5, h6⟩ := hC
  refine ⟨h1, h2, by show (C.ks.set i.toNat k).length = _; rw [List.length_set]; exact h3, fun x hx => ?_, h5, h6⟩
  rcases List.mem_or_eq_of_mem_set (show x ∈ C.ks.set i.toNat k from hx) with h | h
  · exact h4 x h
  · rw [h]; exact hk
theorem sx_get_ne {h : sx_H} {a b : Nat} {x y : sx_C} (e1 : sx_get h a = some x) (e2 : sx_get h b = some y) (hne : x ≠ y) : a ≠ b := fun q => hne (by subst q; exact Option.some.inj (e1.symm.trans e2))
theorem sx_KV.kp {h h1 : sx_H} {K A B : Nat} {ws : List Int} {P : Nat → Prop} (hK : sx_KV h K A B ws) (hk : sx_kp P h h1) (n1 : ¬ P K) (n2 : ¬ P A) (n3 : ¬ P B) : sx_KV h1 K A B ws := by
  obtain ⟨⟨v2, v3, v4, e1⟩, e2, e3, e4⟩ := hK
  exact ⟨⟨v2, v3, v4, hk.2.2 _ _ n1 e1⟩, hk.2.2 _ _ n2 e2, hk.2.2 _ _ n3 e3, e4⟩
theorem sx_CV.kp {h h1 : sx_H} {K c p q : Nat} {C : Clo} {P : Nat → Prop} (hC : sx_CV h K c p q C) (hk : sx_kp P h h1) (n1 : ¬ P c) (n2 : ¬ P p) (n3 : ¬ P q) : sx_CV h1 K c p q C := by
  obtain ⟨e0, ⟨v4, v7, v8, e1⟩, e2, e3⟩ := hC
  exact ⟨e0, ⟨v4, v7, v8, hk.2.2 _ _ n1 e1⟩, hk.2.2 _ _ n2 e2, hk.2.2 _ _ n3 e3⟩
section SXP
variable {S : List Int32} {h : sx_H} {K A B c p q : Nat} {ws : List Int} {C : Clo}
theorem m_colourOf (hK : sx_KV h K A B ws) {k : Int} (hk : -1000 ≤ k ∧ k ≤ 1000) : sx_Cl S 29 [.ref K, .int (sz k)] h = some (.inl (some (.int (sz (kcol k)))), h) := by
  have hh := m_has (S := S) hK hk
  obtain ⟨⟨v2, v3, v4, h1⟩, h2, -, -⟩ := hK
  have f0 := sx_fld_of (f := 0) h1 rfl
  have fk := sx_klass_of h1
  simp (disch := omega) only [c29_q, q29, hh, f0, Option.bind_some, sz_lt0, sz_lt, sz_0lt, sz_mul, sz_add, sz_sub, sz_eq0, sz_eq, sz_nat, List.length_map, nb0, nb1, bz_eq0, ↓reduceIte, Int.reduceEq, Int.reduceLT, Int.reduceAdd, Int.reduceSub, Int.reduceMul, Int.reduceNeg]
  unfold kcol
  by_cases hin : 0 ≤ k ∧ k < 4
  · have hrd := sx_rd_of (S := S) h2 (x := k) ⟨hin.1, by show k < 8; omega⟩ (by decide)
    rw [if_pos hin, decide_eq_true hin, if_neg (by simp), hrd]
    have : sx_cols.getD k.toNat 0 = k % 3 := by
      rcases (show k = 0 ∨ k = 1 ∨ k = 2 ∨ k = 3 by omega) with e | e | e | e <;> subst e <;> decide
    simp only [Option.bind_some, q29, this]
  · rw [if_neg hin, decide_eq_false hin, if_pos rfl]
theorem m_widthOf (hK : sx_KV h K A B ws) {k : Int} (hk : -1000 ≤ k ∧ k ≤ 1000) : sx_Cl S 32 [.ref K, .int (sz k)] h = some (.inl (some (.int (sz (if 0 ≤ k ∧ k < 4 then ws.getD k.toNat 0 else 0)))), h) := by
  have hh := m_has (S := S) hK hk
  obtain ⟨⟨v2, v3, v4, h1⟩, -, h2, h3⟩ := hK
  have f1 := sx_fld_of (f := 1) h1 rfl
  have fk := sx_klass_of h1
  simp (disch := omega) only [c32_q, q32, hh, f1, Option.bind_some, sz_lt0, sz_lt, sz_0lt, sz_mul, sz_add, sz_sub, sz_eq0, sz_eq, sz_nat, List.length_map, nb0, nb1, bz_eq0, ↓reduceIte, Int.reduceEq, Int.reduceLT, Int.reduceAdd, Int.reduceSub, Int.reduceMul, Int.reduceNeg]
  by_cases hin : 0 ≤ k ∧ k < 4
  · have hrd := sx_rd_of (S := S) h2 (x := k) ⟨hin.1, by rw [h3]; omega⟩ (by omega)
    rw [if_pos hin, decide_eq_true hin, if_neg (by simp), hrd]
    simp only [Option.bind_some, q32]
  · rw [if_neg hin, decide_eq_false hin, if_pos rfl]
theorem m_put (hK : sx_KV h K A B ws) (hC : sx_CV h K c p q C) (hA : (A ≠ p ∧ A ≠ q) ∧ (B ≠ p ∧ B ≠ q) ∧ p ≠ q) {i k : Int} (hi : 0 ≤ i ∧ i < C.ks.length) (hk : -1 ≤ k ∧ k < 4) :
    ∃ h' : sx_H, sx_Cl S 30 [.ref c, .int (sz i), .int (sz k)] h = some (.inl none, h') ∧ sx_CV h' K c p q (C.set i k) ∧ sx_KV h' K A B ws ∧ sx_kp (fun a => a = p ∨ a = q) h h' ∧ h'.1.length = h.1.length ∧ h'.2 = h.2 := by
  obtain ⟨f0, f1, f2, f3, f5, f6, f9, f10, fk, i5, i6⟩ := hC.f (S := S)
  obtain ⟨⟨a1, a2⟩, ⟨a3, a4⟩, a5, a6, a7, a8⟩ := hC.1
  have b2 := mulN_bd a4 a2
  have n0 := nb0
  have n1 := nb1
  obtain ⟨-, ⟨v4, v7, v8, hc⟩, hp, hq⟩ := id hC
  obtain ⟨⟨v2, v3, v4', hk0⟩, -, -, -⟩ := id hK
  have hcp : c ≠ p := sx_get_ne hc hp (by intro q; cases q)
  have hcq : c ≠ q := sx_get_ne hc hq (by intro q; cases q)
  have hKp : K ≠ p := sx_get_ne hk0 hp (by intro q; cases q)
  have hKq : K ≠ q := sx_get_ne hk0 hq (by intro q; cases q)
  have hp2 := (sx_get_lt hp).1
  have hq2 := (sx_get_lt hq).1
  have w1 := sx_wr_of (v := k) hp hi (by omega)
  generalize e1 : sx_set h p (.inl ((C.ks.set i.toNat k).map sz)) = h1 at w1
  have kp1 : sx_kp (fun a => a = p ∨ a = q) h h1 := by rw [← e1]; exact sx_kp.set hp (Or.inl rfl)
  have hK1 : sx_KV h1 K A B ws := hK.kp kp1 (by omega) (by omega) (by omega)
  have hc1 : sx_get h1 c = some (.inr (.inr (0, [.ref K, .int (sz C.st), .int (sz C.nc), .int (sz C.nr), v4, .ref p, .ref q, v7, v8, .int (sz 100), .int (sz C.ru)]))) := by rw [← e1]; exact sx_get_setn hc (Ne.symm hcp) hp2
  have hq1 : sx_get h1 q = some (.inl ((C.ks.map kcol).map sz)) := by rw [← e1]; exact sx_get_setn hq hA.2.2 hp2
  have hp1 : sx_get h1 p = some (.inl ((C.ks.set i.toNat k).map sz)) := by rw [← e1]; exact sx_get_set hp
  have g0 := sx_fld_of (f := 0) hc1 rfl
  have g6 := sx_fld_of (f := 6) hc1 rfl
  have gk := sx_klass_of hK1.1.choose_spec.choose_spec.choose_spec
  have w2 := sx_wr_of (x := i) (v := kcol k) hq1 (by rw [List.length_map]; exact hi) (by rw [List.length_map]; omega)
  generalize e2 : sx_set h1 q (.inl (((C.ks.map kcol).set i.toNat (kcol k)).map sz)) = h2 at w2
  refine ⟨h2, ?_, ⟨C.set_ok hC.1 i hk, ⟨v4, v7, v8, ?_⟩, ?_, ?_⟩, ?_, ?_, ?_, ?_⟩
  · simp (disch := omega) only [c30_q, q30, f5, f6, i5, i6, w1, g0, g6, m_colourOf hK1, w2, Option.bind_some, sz_lt0, sz_lt, sz_0lt, sz_mul, sz_add, sz_sub, sz_eq0, sz_eq, sz_nat, List.length_map, nb0, nb1, bz_eq0, ↓reduceIte, Int.reduceEq, Int.reduceLT, Int.reduceAdd, Int.reduceSub, Int.reduceMul, Int.reduceNeg]
    simp (disch := omega) only [if_pos, if_neg]
  · rw [← e2]; exact sx_get_setn hc1 (Ne.symm hcq) hq2
  · rw [← e2]; exact sx_get_setn hp1 (Ne.symm hA.2.2) hq2
  · rw [← e2]
    rw [sx_get_set hq1, ← List.map_set]
    rfl
  · exact hK1.kp (h1 := h2) (P := fun a => a = p ∨ a = q) (by rw [← e2]; exact sx_kp.set hq1 (Or.inr rfl)) (by omega) (by omega) (by omega)
  · exact kp1.trans (by rw [← e2]; exact sx_kp.set hq1 (Or.inr rfl))
  · rw [← e2, ← e1]; simp [sx_set]
  · rw [← e2, ← e1]; rfl
theorem m_max {a b : Int} (ha : -1000000000 ≤ a ∧ a ≤ 1000000000) (hb : -1000000000 ≤ b ∧ b ≤ 1000000000) : sx_Cl S 96 [.int (sz a), .int (sz b)] h = some (.inl (some (.int (sz (if a < b then b else a)))), h) := by
  simp (disch := omega) only [c96_q, q96, Option.bind_some, sz_lt0, sz_lt, sz_0lt, sz_mul, sz_add, sz_sub, sz_eq0, sz_eq, sz_nat, List.length_map, nb0, nb1, bz_eq0, ↓reduceIte, Int.reduceEq, Int.reduceLT, Int.reduceAdd, Int.reduceSub, Int.reduceMul, Int.reduceNeg]
  split <;> rfl
end SXP
