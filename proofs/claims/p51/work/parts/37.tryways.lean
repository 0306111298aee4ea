/-! tryWays: all of them counted -/
section SXW2
variable {S : List Int32} {K A B c p q F E : Nat} {ws : List Int}
/-- what stands all the while -/
def sx_TW (h : sx_H) (K A B c p q F E n : Nat) (ws es : List Int) (C : Clo) : Prop := sx_KV h K A B ws ∧ sx_CV h K c p q C ∧ sx_FV h F E n es
theorem sx_TW.F2 {h h1 : sx_H} {n : Nat} {es : List Int} {C : Clo} (hW : sx_TW h K A B c p q F E n ws es C) (hk : sx_kp (fun a => a = p ∨ a = q) h h1) (hEp : (E ≠ p ∧ E ≠ q) ∧ E ≠ A ∧ E ≠ B) : sx_FV h1 F E n es := by
  obtain ⟨hK, hC, hF⟩ := hW
  obtain ⟨-, ⟨v4, v7, v8, hc⟩, hp, hq⟩ := id hC
  have o2 : F ≠ p := sx_get_ne hF.1 hp (by intro q; cases q)
  have o3 : F ≠ q := sx_get_ne hF.1 hq (by intro q; cases q)
  exact hF.kp hk (by omega) (by omega)
/-- the kinds from v + 1 on in the cell e at depth j, then back -/
def sx_Ex (S : List Int32) (K A B c p q F E : Nat) (ws es : List Int) (m ch : Nat) (j : Nat) (r : List Int) (C : Clo) : Prop :=
  ∀ (h : sx_H) (f s : Int), sx_TW h K A B c p q F E m ws es C → 0 ≤ f ∧ f + (sx_P4 r.length : Int) ≤ 900000 → 0 ≤ s ∧ s + (sx_TT r.length : Int) ≤ 900000 → ∃ (h' : sx_H) (t : Nat), t ≤ sx_TT r.length ∧
    sx_Ev S 51 23 [some (.ref F), some (.ref c), some (.int (sz ch)), some (.int (sz 0)), some (.int (sz f)), some (.int (sz j)), some (.int (sz s))] [] h =
      sx_Ev S 51 23 [some (.ref F), some (.ref c), some (.int (sz ch)), some (.int (sz 0)), some (.int (sz (f + Clo.nw ch r C))), some (.int (sz ((j : Int) - 1))), some (.int (sz (s + t)))] [] h' ∧
    sx_TW h' K A B c p q F E m ws es C ∧ sx_kp (fun a => a = p ∨ a = q) h h' ∧ h'.1.length = h.1.length ∧ h'.2 = h.2
theorem m_ex_nil {es : List Int} {m ch : Nat} {C : Clo} (hm : m ≤ 6) : sx_Ex S K A B c p q F E ws es m ch m [] C := by
  intro h f s hW hf hs
  obtain ⟨hK, hC, hF⟩ := id hW
  have g1 := sx_fld_of (f := 1) hF.1 rfl
  refine ⟨h, 1, by decide, ?_, hW, sx_kp.refl h, rfl, rfl⟩
  rw [h51_23]
  simp (disch := omega) only [q51_0, q51_1, g1, Option.bind_some, sz_lt0, sz_lt, sz_0lt, sz_mul, sz_add, sz_sub, sz_eq0, sz_eq, sz_nat, List.length_map, nb0, nb1, bz_eq0, ↓reduceIte, Int.reduceEq, Int.reduceLT, Int.reduceAdd, Int.reduceSub, Int.reduceMul, Int.reduceNeg]
  rw [if_pos (by omega), if_neg (by omega), if_neg (by omega)]
  show _ = sx_Ev S 51 23 [_, _, _, _, some (.int (sz (f + 1))), _, some (.int (sz (s + ((1 : Nat) : Int))))] [] h
  rfl
theorem m_ex_k {es : List Int} {m ch j : Nat} {C : Clo} {e : Int} {r : List Int} (hch : 1 ≤ ch ∧ ch ≤ 4) (hA : (A ≠ p ∧ A ≠ q) ∧ (B ≠ p ∧ B ≠ q) ∧ p ≠ q) (hEp : (E ≠ p ∧ E ≠ q) ∧ E ≠ A ∧ E ≠ B) (he : 0 ≤ e ∧ e < C.ks.length) (hke : C.k e = -1) (hm : m ≤ 6) (hj : j < m) (hje : es.getD j 0 = e) (hr : j + 1 + r.length = m)
    (ih : ∀ v : Int, 0 ≤ v ∧ v < ch → sx_Ex S K A B c p q F E ws es m ch (j + 1) r (C.set e v)) : ∀ (n : Nat) (v : Int) (h : sx_H) (f s : Int), v + 1 + n = ch → -1 ≤ v → sx_TW h K A B c p q F E m ws es (C.set e v) → 0 ≤ f ∧ f + ((n * sx_P4 r.length : Nat) : Int) ≤ 900000 → 0 ≤ s ∧ s + ((n * (1 + sx_TT r.length) + 1 : Nat) : Int) ≤ 900000 →
    ∃ (h' : sx_H) (t : Nat), t ≤ n * (1 + sx_TT r.length) + 1 ∧
    sx_Ev S 51 23 [some (.ref F), some (.ref c), some (.int (sz ch)), some (.int (sz 0)), some (.int (sz f)), some (.int (sz j)), some (.int (sz s))] [] h =
      sx_Ev S 51 23 [some (.ref F), some (.ref c), some (.int (sz ch)), some (.int (sz 0)), some (.int (sz (f + nwk (Clo.nw ch r) C e (v + 1).toNat n))), some (.int (sz ((j : Int) - 1))), some (.int (sz (s + t)))] [] h' ∧
    sx_TW h' K A B c p q F E m ws es C ∧ sx_kp (fun a => a = p ∨ a = q) h h' ∧ h'.1.length = h.1.length ∧ h'.2 = h.2 := by
  intro n
  induction n with
  | zero =>
    intro v h f s hv hv1 hW hf hs
    obtain ⟨hK, hC, hF⟩ := id hW
    have hlen : (C.set e v).ks.length = C.ks.length := List.length_set ..
    have hb := mulN_bd hC.1.2.1.2 hC.1.1.2
    have hl2 := hC.1.2.2.1
    have hkv := set_k (a := v) he
    obtain ⟨h', e1, e2, e3, e4, e5, e6⟩ := m_tryNext (S := S) (F := F) hK hC hA (i := e) (ch := ch) (by rw [hlen]; exact he) (by omega)
    have htn : (C.set e v).tn e ch = (C, false) := by
      unfold Clo.tn
      rw [if_pos (by omega), set_set, set_id he hke]
    rw [htn] at e1 e2
    have hF1 := hW.F2 e4 hEp
    have g0 := sx_fld_of (f := 0) hF.1 rfl
    have g1 := sx_fld_of (f := 1) hF.1 rfl
    have g01 := sx_fld_of (f := 0) hF1.1 rfl
    have rd := sx_rd_of (S := S) (x := j) hF.2.1 (by rw [hF.2.2]; omega) (by rw [hF.2.2]; omega)
    have rd1 := sx_rd_of (S := S) (x := j) hF1.2.1 (by rw [hF.2.2]; omega) (by rw [hF.2.2]; omega)
    rw [Int.toNat_natCast, hje] at rd rd1
    have fk1 := sx_klass_of hF.1
    obtain ⟨-, -, -, -, -, -, -, -, fk, -, -⟩ := e2.f (S := S)
    have ki := m_kindIn (S := S) e2 (i := e) (by omega)
    rw [hke] at ki
    refine ⟨h', 1, by omega, ?_, ⟨e3, e2, hF1⟩, e4, e5, e6⟩
    rw [h51_23]
    simp (disch := omega) only [q51_0, q51_1, g0, g1, g01, rd, rd1, e1, ki, Option.bind_some, sz_lt0, sz_lt, sz_0lt, sz_mul, sz_add, sz_sub, sz_eq0, sz_eq, sz_nat, List.length_map, nb0, nb1, bz_eq0, ↓reduceIte, Int.reduceEq, Int.reduceLT, Int.reduceAdd, Int.reduceSub, Int.reduceMul, Int.reduceNeg]
    rw [if_pos (by omega), if_neg (by omega), if_pos (by omega), if_pos (by omega)]
    show _ = sx_Ev S 51 23 [_, _, _, _, some (.int (sz (f + 0))), _, some (.int (sz (s + ((1 : Nat) : Int))))] [] h'
    rw [Int.add_zero]
    rfl
  | succ n ihn =>
    intro v h f s hv hv1 hW hf hs
    obtain ⟨hK, hC, hF⟩ := id hW
    have hlen : (C.set e v).ks.length = C.ks.length := List.length_set ..
    have hb := mulN_bd hC.1.2.1.2 hC.1.1.2
    have hl2 := hC.1.2.2.1
    have hkv := set_k (a := v) he
    obtain ⟨h', e1, e2, e3, e4, e5, e6⟩ := m_tryNext (S := S) (F := F) hK hC hA (i := e) (ch := ch) (by rw [hlen]; exact he) (by omega)
    have htn : (C.set e v).tn e ch = (C.set e (v + 1), !(C.set e (v + 1)).bd e) := by
      unfold Clo.tn
      rw [if_neg (by omega), hkv, set_set]
      rfl
    rw [htn] at e1 e2
    have hF1 := hW.F2 e4 hEp
    have hW1 : sx_TW h' K A B c p q F E m ws es (C.set e (v + 1)) := ⟨e3, e2, hF1⟩
    have g0 := sx_fld_of (f := 0) hF.1 rfl
    have g1 := sx_fld_of (f := 1) hF.1 rfl
    have g01 := sx_fld_of (f := 0) hF1.1 rfl
    have rd := sx_rd_of (S := S) (x := j) hF.2.1 (by rw [hF.2.2]; omega) (by rw [hF.2.2]; omega)
    have rd1 := sx_rd_of (S := S) (x := j) hF1.2.1 (by rw [hF.2.2]; omega) (by rw [hF.2.2]; omega)
    rw [Int.toNat_natCast, hje] at rd rd1
    have fk1 := sx_klass_of hF.1
    obtain ⟨-, -, -, -, -, -, -, -, fk, -, -⟩ := e2.f (S := S)
    have ki := m_kindIn (S := S) e2 (i := e) (by omega)
    rw [set_k he] at ki
    have hvn : ((v + 1).toNat : Int) = v + 1 := by omega
    have hvs : (v + 1 + 1).toNat = (v + 1).toNat + 1 := by omega
    have hT := T_bd (n := r.length) (by omega)
    have hX : (n + 1) * (1 + sx_TT r.length) + 1 = n * (1 + sx_TT r.length) + (1 + sx_TT r.length) + 1 := by rw [Nat.add_mul, Nat.one_mul]
    rw [hX] at hs ⊢
    have hY : (n + 1) * sx_P4 r.length = n * sx_P4 r.length + sx_P4 r.length := by rw [Nat.add_mul, Nat.one_mul]
    rw [hY] at hf
    have hnw := nw_bd (ch := ch) hch.2 r (C.set e (v + 1))
    have hP4 := P4_bd (n := r.length) (by omega)
    have hsum : nwk (Clo.nw ch r) C e (v + 1).toNat (n + 1) = (if (C.set e (v + 1)).bd e = true then 0 else Clo.nw ch r (C.set e (v + 1))) + nwk (Clo.nw ch r) C e (v + 1 + 1).toNat n := by
      rw [hvs]
      show (if (C.set e ((v + 1).toNat : Int)).bd e = true then 0 else Clo.nw ch r (C.set e ((v + 1).toNat : Int))) + _ = _
      rw [hvn]
    rw [hsum]
    cases hbd : (C.set e (v + 1)).bd e
    · rw [hbd] at e1
      obtain ⟨h2, t2, q1, q2, q3, q4, q5, q6⟩ := ih (v + 1) (by omega) h' f (s + 1) hW1 (by omega) (by omega)
      obtain ⟨h3, t3, r1, r2, r3, r4, r5, r6⟩ := ihn (v + 1) h2 (f + Clo.nw ch r (C.set e (v + 1))) (s + 1 + t2) (by omega) (by omega) q3 (by omega) (by omega)
      refine ⟨h3, 1 + t2 + t3, ?_, ?_, r3, e4.trans (q4.trans r4), by rw [r5, q5, e5], by rw [r6, q6, e6]⟩
      · omega
      · rw [h51_23]
        simp (disch := omega) only [q51_0, q51_1, g0, g1, g01, rd, rd1, e1, ki, Bool.not_false, Option.bind_some, sz_lt0, sz_lt, sz_0lt, sz_mul, sz_add, sz_sub, sz_eq0, sz_eq, sz_nat, List.length_map, nb0, nb1, bz_eq0, ↓reduceIte, Int.reduceEq, Int.reduceLT, Int.reduceAdd, Int.reduceSub, Int.reduceMul, Int.reduceNeg]
        rw [if_pos (by omega), if_neg (by omega), if_pos (by omega), if_pos (by omega), if_neg (by simp)]
        rw [show ((j + 1 : Nat) : Int) = (j : Int) + 1 by omega] at q2
        refine Eq.trans q2 ?_
        rw [show (j : Int) + 1 - 1 = (j : Int) by omega]
        refine Eq.trans r2 ?_
        rw [if_neg (by simp), Int.add_assoc f, show s + 1 + (t2 : Int) + (t3 : Int) = s + ((1 + t2 + t3 : Nat) : Int) by omega]
    · rw [hbd] at e1
      obtain ⟨h3, t3, r1, r2, r3, r4, r5, r6⟩ := ihn (v + 1) h' f (s + 1) (by omega) (by omega) hW1 (by omega) (by omega)
      refine ⟨h3, 1 + t3, ?_, ?_, r3, e4.trans r4, by rw [r5, e5], by rw [r6, e6]⟩
      · omega
      · rw [h51_23]
        simp (disch := omega) only [q51_0, q51_1, g0, g1, g01, rd, rd1, e1, ki, Bool.not_true, Option.bind_some, sz_lt0, sz_lt, sz_0lt, sz_mul, sz_add, sz_sub, sz_eq0, sz_eq, sz_nat, List.length_map, nb0, nb1, bz_eq0, ↓reduceIte, Int.reduceEq, Int.reduceLT, Int.reduceAdd, Int.reduceSub, Int.reduceMul, Int.reduceNeg]
        rw [if_pos (by omega), if_neg (by omega), if_pos (by omega), if_pos (by omega), if_neg (by omega)]
        refine Eq.trans r2 ?_
        rw [Int.zero_add, show s + 1 + (t3 : Int) = s + ((1 + t3 : Nat) : Int) by omega]
end SXW2
