/-! TRYING: the next kind in a cell; the empty cells -/
def Clo.tn (C : Clo) (i ch : Int) : Clo × Bool := if ch ≤ C.k i + 1 then (C.set i (-1), false) else (C.set i (C.k i + 1), !((C.set i (C.k i + 1)).bad (i / C.nc) (i - i / C.nc * C.nc)))
theorem Clo.k_bd {C : Clo} (hC : C.ok) (i : Int) : -1 ≤ C.k i ∧ C.k i ≤ 3 := by
  unfold Clo.k
  split
  · rename_i hin
    have hlt : i.toNat < C.ks.length := by omega
    have := hC.2.2.2.1 (C.ks.getD i.toNat 0) (by rw [List.getD_eq_getElem?_getD, List.getElem?_eq_getElem hlt]; exact List.getElem_mem hlt)
    omega
  · omega
theorem rc_in {i : Int} {nc nr : Nat} (h1 : 1 ≤ nc) (h : 0 ≤ i ∧ i < ((nr * nc : Nat) : Int)) : (0 ≤ i / nc ∧ i / nc < nr) ∧ (0 ≤ i - i / nc * nc ∧ i - i / nc * nc < nc) := by
  have a1 := Int.ediv_nonneg h.1 (show (0 : Int) ≤ nc by omega)
  have a2 := Int.emod_nonneg i (show (nc : Int) ≠ 0 by omega)
  have a3 := Int.emod_lt_of_pos i (show (0 : Int) < nc by omega)
  have a4 : i - i / nc * nc = i % nc := by
    rw [Int.mul_comm]
    have := Int.mul_ediv_add_emod i nc
    omega
  have a5 : i / nc < nr := Int.ediv_lt_of_lt_mul (by omega) (by rw [← Int.natCast_mul]; exact h.2)
  exact ⟨⟨a1, a5⟩, by omega, by omega⟩
def sx_FV (h : sx_H) (F E : Nat) (n : Nat) (es : List Int) : Prop := sx_get h F = some (.inr (.inr (1, [.ref E, .int (sz n)]))) ∧ sx_get h E = some (.inl (es.map sz)) ∧ es.length = 6
theorem sx_FV.kp {h h1 : sx_H} {F E n : Nat} {es : List Int} {P : Nat → Prop} (hF : sx_FV h F E n es) (hk : sx_kp P h h1) (n1 : ¬ P F) (n2 : ¬ P E) : sx_FV h1 F E n es := ⟨hk.2.2 _ _ n1 hF.1, hk.2.2 _ _ n2 hF.2.1, hF.2.2⟩
def Clo.emf (C : Clo) : Nat → Nat → List Int
  | _, 0 => []
  | i, n + 1 => if C.k i = -1 then (i : Int) :: C.emf (i + 1) n else C.emf (i + 1) n
section SXT3
variable {S : List Int32} {h : sx_H} {K A B c p q F E : Nat} {ws : List Int} {C : Clo}
theorem m_tryNext (hK : sx_KV h K A B ws) (hC : sx_CV h K c p q C) (hA : (A ≠ p ∧ A ≠ q) ∧ (B ≠ p ∧ B ≠ q) ∧ p ≠ q) {i ch : Int} (hi : 0 ≤ i ∧ i < C.ks.length) (hch : 1 ≤ ch ∧ ch ≤ 4) :
    ∃ h' : sx_H, sx_Cl S 50 [.ref F, .ref c, .int (sz i), .int (sz ch)] h = some (.inl (some (.int (sz (bz (C.tn i ch).2)))), h') ∧ sx_CV h' K c p q (C.tn i ch).1 ∧ sx_KV h' K A B ws ∧ sx_kp (fun a => a = p ∨ a = q) h h' ∧ h'.1.length = h.1.length ∧ h'.2 = h.2 := by
  obtain ⟨f0, f1, f2, f3, f5, f6, f9, f10, fk, i5, i6⟩ := hC.f (S := S)
  obtain ⟨⟨a1, a2⟩, ⟨a3, a4⟩, a5, a6, a7, a8⟩ := hC.1
  have b2 := mulN_bd a4 a2
  have n0 := nb0
  have n1 := nb1
  have hkb := Clo.k_bd hC.1 i
  unfold Clo.tn
  by_cases e : ch ≤ C.k i + 1
  · obtain ⟨h', e1, e2, e3, e4, e5⟩ := m_put (S := S) hK hC hA hi (k := -1) (by omega)
    refine ⟨h', ?_, ?_, e3, e4, e5⟩
    · rw [if_pos e]
      simp (disch := omega) only [c50_q, q50, m_kindIn hC, e1, Option.bind_some, sz_lt0, sz_lt, sz_0lt, sz_mul, sz_add, sz_sub, sz_eq0, sz_eq, sz_nat, List.length_map, nb0, nb1, bz_eq0, ↓reduceIte, Int.reduceEq, Int.reduceLT, Int.reduceAdd, Int.reduceSub, Int.reduceMul, Int.reduceNeg]
      rw [if_neg (by omega)]
      rfl
    · rw [if_pos e]; exact e2
  · obtain ⟨h', e1, e2, e3, e4, e5⟩ := m_put (S := S) hK hC hA hi (k := C.k i + 1) (by omega)
    refine ⟨h', ?_, ?_, e3, e4, e5⟩
    · have hin := rc_in (i := i) (nc := C.nc) (nr := C.nr) (by omega) (by omega)
      have hb := m_bad (S := S) e2 (r := i / C.nc) (x := i - i / C.nc * C.nc) hin.1 hin.2
      obtain ⟨-, -, g2, -⟩ := e2.f (S := S)
      have g2 : sx_fld h' c 0 2 = some (.int (sz C.nc)) := g2
      rw [if_neg e]
      simp (disch := omega) only [c50_q, q50, m_kindIn hC, e1, g2, m_max, sz_tdiv, Option.bind_some, sz_lt0, sz_lt, sz_0lt, sz_mul, sz_add, sz_sub, sz_eq0, sz_eq, sz_nat, List.length_map, nb0, nb1, bz_eq0, ↓reduceIte, Int.reduceEq, Int.reduceLT, Int.reduceAdd, Int.reduceSub, Int.reduceMul, Int.reduceNeg]
      rw [if_pos (by omega), if_neg (by omega)]
      simp (disch := omega) only [if_neg, sz_eq0, sz_tdiv, Int.tdiv_eq_ediv_of_nonneg hi.1, q50, sz_mul, sz_sub, hb, bz_eq0]
      cases ((C.set i (C.k i + 1)).bad (i / C.nc) (i - i / C.nc * C.nc)) <;> rfl
    · rw [if_neg e]; exact e2
theorem m_empties_l (hEp : (E ≠ p ∧ E ≠ q) ∧ E ≠ A ∧ E ≠ B) : ∀ (n i : Nat) (h : sx_H) (es : List Int) (dn : List Int), sx_KV h K A B ws → sx_CV h K c p q C → sx_FV h F E dn.length es → i + n = C.ks.length → es.take dn.length = dn → (dn ++ C.emf i n).length ≤ 6 →
    ∃ (h' : sx_H) (es' : List Int), sx_Ev S 41 7 [some (.ref F), some (.ref c), some (.int (sz i))] [] h = some (.inl none, h') ∧ sx_FV h' F E (dn ++ C.emf i n).length es' ∧ es'.take (dn ++ C.emf i n).length = dn ++ C.emf i n ∧ sx_KV h' K A B ws ∧ sx_CV h' K c p q C ∧ sx_kp (fun a => a = F ∨ a = E) h h' ∧ h'.1.length = h.1.length ∧ h'.2 = h.2 := by
  intro n
  induction n with
  | zero =>
    intro i h es dn hK hC hF hi htk hl
    obtain ⟨f0, f1, f2, f3, f5, f6, f9, f10, fk, i5, i6⟩ := hC.f (S := S)
    obtain ⟨⟨a1, a2⟩, ⟨a3, a4⟩, a5, a6, a7, a8⟩ := hC.1
    have b2 := mulN_bd a4 a2
    have n0 := nb0
    have n1 := nb1
    refine ⟨h, es, ?_, ?_, ?_, hK, hC, sx_kp.refl h, rfl, rfl⟩
    · rw [h41_7]
      simp (disch := omega) only [q41, m_size hC, fk, Option.bind_some, sz_lt0, sz_lt, sz_0lt, sz_mul, sz_add, sz_sub, sz_eq0, sz_eq, sz_nat, List.length_map, nb0, nb1, bz_eq0, ↓reduceIte, Int.reduceEq, Int.reduceLT, Int.reduceAdd, Int.reduceSub, Int.reduceMul, Int.reduceNeg]
      rw [if_neg (by omega)]
    · simpa [Clo.emf] using hF
    · simpa [Clo.emf] using htk
  | succ n ih =>
    intro i h es dn hK hC hF hi htk hl
    obtain ⟨f0, f1, f2, f3, f5, f6, f9, f10, fk, i5, i6⟩ := hC.f (S := S)
    obtain ⟨⟨a1, a2⟩, ⟨a3, a4⟩, a5, a6, a7, a8⟩ := hC.1
    have b2 := mulN_bd a4 a2
    have n0 := nb0
    have n1 := nb1
    have hkb := Clo.k_bd hC.1 i
    have hi1 : (i : Int) + 1 = ((i + 1 : Nat) : Int) := by omega
    have g1 := sx_fld_of (f := 1) hF.1 rfl
    have g0 := sx_fld_of (f := 0) hF.1 rfl
    by_cases ek : C.k i = -1
    · have el : C.emf i (n + 1) = (i : Int) :: C.emf (i + 1) n := by rw [Clo.emf, if_pos ek]
      rw [el] at hl ⊢
      have hdl : dn.length < 6 := by simp at hl; omega
      have w1 := sx_wr_of (x := dn.length) (v := i) hF.2.1 (by rw [hF.2.2]; omega) (by rw [hF.2.2]; omega)
      have hE2 := (sx_get_lt hF.2.1).1
      have hF2 := (sx_get_lt hF.1).1
      have hFE : F ≠ E := sx_get_ne hF.1 hF.2.1 (by intro q; cases q)
      generalize e1 : sx_set h E (.inl ((es.set ((dn.length : Nat) : Int).toNat i).map sz)) = h1 at w1
      have hF1 : sx_get h1 F = some (.inr (.inr (1, [.ref E, .int (sz dn.length)]))) := by rw [← e1]; exact sx_get_setn hF.1 (Ne.symm hFE) hE2
      have g11 := sx_fld_of (f := 1) hF1 rfl
      have w2 : sx_fst h1 F 1 1 (.int (sz ((dn.length : Int) + 1))) = some (sx_set h1 F (.inr (.inr (1, [.ref E, .int (sz ((dn.length : Int) + 1))])))) := sx_fst_of hF1 (by simp)
      generalize e2 : sx_set h1 F (.inr (.inr (1, [.ref E, .int (sz ((dn.length : Int) + 1))]))) = h2 at w2
      have k1 : sx_kp (fun a => a = F ∨ a = E) h h1 := by rw [← e1]; exact sx_kp.set hF.2.1 (Or.inr rfl)
      have k2 : sx_kp (fun a => a = F ∨ a = E) h1 h2 := by rw [← e2]; exact sx_kp.set hF1 (Or.inl rfl)
      have k3 := k1.trans k2
      obtain ⟨-, ⟨v4, v7, v8, hc⟩, hp, hq⟩ := id hC
      obtain ⟨⟨v2, v3, v4', hk0⟩, hA0, hB0, -⟩ := id hK
      have o1 : F ≠ c := sx_get_ne hF.1 hc (by intro q; cases q)
      have o2 : F ≠ p := sx_get_ne hF.1 hp (by intro q; cases q)
      have o3 : F ≠ q := sx_get_ne hF.1 hq (by intro q; cases q)
      have o4 : F ≠ K := sx_get_ne hF.1 hk0 (by intro q; cases q)
      have o5 : F ≠ A := sx_get_ne hF.1 hA0 (by intro q; cases q)
      have o6 : F ≠ B := sx_get_ne hF.1 hB0 (by intro q; cases q)
      have o7 : E ≠ c := sx_get_ne hF.2.1 hc (by intro q; cases q)
      have o8 : E ≠ K := sx_get_ne hF.2.1 hk0 (by intro q; cases q)
      have hK2 := hK.kp k3 (by omega) (by omega) (by omega)
      have hC2 := hC.kp k3 (by omega) (by omega) (by omega)
      have hE1 : sx_get h1 E = some (.inl ((es.set dn.length i).map sz)) := by rw [← e1]; exact sx_get_set hF.2.1
      have hF2' : sx_FV h2 F E (dn ++ [(i : Int)]).length (es.set dn.length i) := by
        refine ⟨?_, ?_, by rw [List.length_set]; exact hF.2.2⟩
        · rw [← e2, sx_get_set hF1, List.length_append, List.length_singleton, Int.natCast_add]
          rfl
        · rw [← e2]; exact sx_get_setn hE1 hFE hF2
      have htk2 : (es.set dn.length i).take (dn ++ [(i : Int)]).length = dn ++ [(i : Int)] := by
        rw [List.length_append, List.length_singleton, List.take_add_one, List.take_set_of_le (Nat.le_refl _), htk, List.getElem?_set_self (by rw [hF.2.2]; omega)]
        rfl
      obtain ⟨h', es', r1, r2, r3, r4, r5, r6, r7, r8⟩ := ih (i + 1) h2 (es.set dn.length i) (dn ++ [(i : Int)]) hK2 hC2 hF2' (by omega) htk2 (by simpa using hl)
      refine ⟨h', es', ?_, by simpa using r2, by simpa using r3, r4, r5, k3.trans r6, by rw [r7, ← e2, ← e1]; simp [sx_set], by rw [r8, ← e2, ← e1]; rfl⟩
      rw [h41_7]
      simp (disch := omega) only [q41, m_size hC, m_kindIn hC, fk, g0, g1, g11, w1, w2, hi1, Option.bind_some, sz_lt0, sz_lt, sz_0lt, sz_mul, sz_add, sz_sub, sz_eq0, sz_eq, sz_nat, List.length_map, nb0, nb1, bz_eq0, ↓reduceIte, Int.reduceEq, Int.reduceLT, Int.reduceAdd, Int.reduceSub, Int.reduceMul, Int.reduceNeg]
      rw [if_pos (by omega), if_pos ek, if_pos (by omega)]
      exact r1
    · have el : C.emf i (n + 1) = C.emf (i + 1) n := by rw [Clo.emf, if_neg ek]
      rw [el] at hl ⊢
      obtain ⟨h', es', r1, r2⟩ := ih (i + 1) h es dn hK hC hF (by omega) htk hl
      refine ⟨h', es', ?_, r2⟩
      rw [h41_7]
      simp (disch := omega) only [q41, m_size hC, m_kindIn hC, fk, hi1, Option.bind_some, sz_lt0, sz_lt, sz_0lt, sz_mul, sz_add, sz_sub, sz_eq0, sz_eq, sz_nat, List.length_map, nb0, nb1, bz_eq0, ↓reduceIte, Int.reduceEq, Int.reduceLT, Int.reduceAdd, Int.reduceSub, Int.reduceMul, Int.reduceNeg]
      rw [if_pos (by omega), if_neg ek]
      exact r1
theorem m_empties (hK : sx_KV h K A B ws) (hC : sx_CV h K c p q C) (hEp : (E ≠ p ∧ E ≠ q) ∧ E ≠ A ∧ E ≠ B) {n : Nat} {es : List Int} (hF : sx_FV h F E n es) (h6 : (C.emf 0 C.ks.length).length ≤ 6) :
    ∃ (h' : sx_H) (es' : List Int), sx_Cl S 41 [.ref F, .ref c] h = some (.inl none, h') ∧ sx_FV h' F E (C.emf 0 C.ks.length).length es' ∧ es'.take (C.emf 0 C.ks.length).length = C.emf 0 C.ks.length ∧ sx_KV h' K A B ws ∧ sx_CV h' K c p q C ∧ sx_kp (fun a => a = F ∨ a = E) h h' ∧ h'.1.length = h.1.length ∧ h'.2 = h.2 := by
  have w : sx_fst h F 1 1 (.int (sz 0)) = some (sx_set h F (.inr (.inr (1, [.ref E, .int (sz 0)])))) := sx_fst_of hF.1 (by simp)
  generalize e2 : sx_set h F (.inr (.inr (1, [.ref E, .int (sz 0)]))) = h2 at w
  have k2 : sx_kp (fun a => a = F ∨ a = E) h h2 := by rw [← e2]; exact sx_kp.set hF.1 (Or.inl rfl)
  obtain ⟨-, ⟨v4, v7, v8, hc⟩, hp, hq⟩ := id hC
  obtain ⟨⟨v2, v3, v4', hk0⟩, hA0, hB0, -⟩ := id hK
  have o1 : F ≠ c := sx_get_ne hF.1 hc (by intro q; cases q)
  have o2 : F ≠ p := sx_get_ne hF.1 hp (by intro q; cases q)
  have o3 : F ≠ q := sx_get_ne hF.1 hq (by intro q; cases q)
  have o4 : F ≠ K := sx_get_ne hF.1 hk0 (by intro q; cases q)
  have o5 : F ≠ A := sx_get_ne hF.1 hA0 (by intro q; cases q)
  have o6 : F ≠ B := sx_get_ne hF.1 hB0 (by intro q; cases q)
  have o7 : E ≠ c := sx_get_ne hF.2.1 hc (by intro q; cases q)
  have o8 : E ≠ K := sx_get_ne hF.2.1 hk0 (by intro q; cases q)
  have hFE : F ≠ E := sx_get_ne hF.1 hF.2.1 (by intro q; cases q)
  have hK2 := hK.kp k2 (by omega) (by omega) (by omega)
  have hC2 := hC.kp k2 (by omega) (by omega) (by omega)
  have hF2 : sx_FV h2 F E ([] : List Int).length es := ⟨by rw [← e2, sx_get_set hF.1]; rfl, by rw [← e2]; exact sx_get_setn hF.2.1 hFE (sx_get_lt hF.1).1, hF.2.2⟩
  obtain ⟨h', es', r1, r2, r3, r4, r5, r6, r7, r8⟩ := m_empties_l (S := S) hEp C.ks.length 0 h2 es [] hK2 hC2 hF2 (by omega) rfl (by simpa using h6)
  refine ⟨h', es', ?_, by simpa using r2, by simpa using r3, r4, r5, k2.trans r6, by rw [r7, ← e2]; simp [sx_set], by rw [r8, ← e2]; rfl⟩
  simp (disch := omega) only [c41_q, q41, w, Option.bind_some, sz_lt0, sz_lt, sz_0lt, sz_mul, sz_add, sz_sub, sz_eq0, sz_eq, sz_nat, List.length_map, nb0, nb1, bz_eq0, ↓reduceIte, Int.reduceEq, Int.reduceLT, Int.reduceAdd, Int.reduceSub, Int.reduceMul, Int.reduceNeg]
  exact r1
end SXT3
