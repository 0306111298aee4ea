/-! tryWays with its flag: the first way is left in the cloth -/
def fstk (f : Clo → Option Clo) (C : Clo) (e : Int) : Nat → Nat → Option Clo
  | _, 0 => none
  | v, n + 1 => if (C.set e v).bd e = true then fstk f C e (v + 1) n else match f (C.set e v) with
    | some D => some D
    | none => fstk f C e (v + 1) n
def Clo.fst (ch : Nat) : List Int → Clo → Option Clo
  | [], C => some C
  | e :: r, C => fstk (Clo.fst ch r) C e 0 ch
section SXF1
variable {S : List Int32} {K A B c p q F E : Nat} {ws : List Int}
def sx_Ex1 (S : List Int32) (K A B c p q F E : Nat) (ws es : List Int) (m ch : Nat) (j : Nat) (o : Option Clo) (T : Nat) (C0 C : Clo) : Prop :=
  ∀ (h : sx_H) (s : Int), sx_TW h K A B c p q F E m ws es C0 → 0 ≤ s ∧ s + (T : Int) ≤ 900000 → ∃ h' : sx_H, (sx_kp (fun a => a = p ∨ a = q) h h' ∧ h'.1.length = h.1.length ∧ h'.2 = h.2) ∧
    ((o = none ∧ sx_TW h' K A B c p q F E m ws es C ∧ ∃ t : Nat, t ≤ T ∧
      sx_Ev S 51 23 [some (.ref F), some (.ref c), some (.int (sz ch)), some (.int (sz 1)), some (.int (sz 0)), some (.int (sz j)), some (.int (sz s))] [] h =
        sx_Ev S 51 23 [some (.ref F), some (.ref c), some (.int (sz ch)), some (.int (sz 1)), some (.int (sz 0)), some (.int (sz ((j : Int) - 1))), some (.int (sz (s + t)))] [] h') ∨
     (∃ D : Clo, o = some D ∧ sx_TW h' K A B c p q F E m ws es D ∧
      sx_Ev S 51 23 [some (.ref F), some (.ref c), some (.int (sz ch)), some (.int (sz 1)), some (.int (sz 0)), some (.int (sz j)), some (.int (sz s))] [] h = some (.inl (some (.int (sz 1))), h')))
theorem m_ex1_nil {es : List Int} {m ch : Nat} {C : Clo} (hm : m ≤ 6) : sx_Ex1 S K A B c p q F E ws es m ch m (Clo.fst ch [] C) (sx_TT 0) C C := by
  intro h s hW hs
  obtain ⟨hK, hC, hF⟩ := id hW
  have g1 := sx_fld_of (f := 1) hF.1 rfl
  refine ⟨h, ⟨sx_kp.refl h, rfl, rfl⟩, Or.inr ⟨C, rfl, hW, ?_⟩⟩
  have hT : sx_TT 0 = 1 := rfl
  rw [hT] at hs
  rw [h51_23]
  simp (disch := omega) only [q51_0, q51_1, g1, Option.bind_some, sz_lt0, sz_lt, sz_0lt, sz_mul, sz_add, sz_sub, sz_eq0, sz_eq, sz_nat, List.length_map, nb0, nb1, bz_eq0, ↓reduceIte, Int.reduceEq, Int.reduceLT, Int.reduceAdd, Int.reduceSub, Int.reduceMul, Int.reduceNeg]
  rw [if_pos (by omega), if_neg (by omega), if_neg (by omega)]
theorem m_ex1_k {es : List Int} {m ch j : Nat} {C : Clo} {e : Int} {r : List Int} (hch : 1 ≤ ch ∧ ch ≤ 4) (hA : (A ≠ p ∧ A ≠ q) ∧ (B ≠ p ∧ B ≠ q) ∧ p ≠ q) (hEp : (E ≠ p ∧ E ≠ q) ∧ E ≠ A ∧ E ≠ B) (he : 0 ≤ e ∧ e < C.ks.length) (hke : C.k e = -1) (hm : m ≤ 6) (hj : j < m) (hje : es.getD j 0 = e) (hr : j + 1 + r.length = m)
    (ih : ∀ v : Int, 0 ≤ v ∧ v < ch → sx_Ex1 S K A B c p q F E ws es m ch (j + 1) (Clo.fst ch r (C.set e v)) (sx_TT r.length) (C.set e v) (C.set e v)) : ∀ (n : Nat) (v : Int), v + 1 + n = ch → -1 ≤ v → sx_Ex1 S K A B c p q F E ws es m ch j (fstk (Clo.fst ch r) C e (v + 1).toNat n) (n * (1 + sx_TT r.length) + 1) (C.set e v) C := by
  intro n
  induction n with
  | zero =>
    intro v hv hv1 h s hW hs
    obtain ⟨hK, hC, hF⟩ := id hW
    have hlen : (C.set e v).ks.length = C.ks.length := List.length_set ..
    have hb := mulN_bd hC.1.2.1.2 hC.1.1.2
    have hl2 := hC.1.2.2.1
    have hkv := set_k (a := v) he
    obtain ⟨h', e1, e2, e3, e4, e5, e6⟩ := m_tryNext (S := S) (F := F) hK hC hA (i := e) (ch := ch) (by rw [hlen]; exact he) (by omega)
    have htn : (C.set e v).tn e ch = (C, false) := by
      unfold Clo.tn
      rw [if_pos (by omega), set_set, set_id he hke]
    rw [htn] at e1 e2
    have hF1 := hW.F2 e4 hEp
    have g0 := sx_fld_of (f := 0) hF.1 rfl
    have g1 := sx_fld_of (f := 1) hF.1 rfl
    have g01 := sx_fld_of (f := 0) hF1.1 rfl
    have rd := sx_rd_of (S := S) (x := j) hF.2.1 (by rw [hF.2.2]; omega) (by rw [hF.2.2]; omega)
    have rd1 := sx_rd_of (S := S) (x := j) hF1.2.1 (by rw [hF.2.2]; omega) (by rw [hF.2.2]; omega)
    rw [Int.toNat_natCast, hje] at rd rd1
    have fk1 := sx_klass_of hF.1
    obtain ⟨-, -, -, -, -, -, -, -, fk, -, -⟩ := e2.f (S := S)
    have ki := m_kindIn (S := S) e2 (i := e) (by omega)
    rw [hke] at ki
    refine ⟨h', ⟨e4, e5, e6⟩, Or.inl ⟨rfl, ⟨e3, e2, hF1⟩, 1, by omega, ?_⟩⟩
    rw [h51_23]
    simp (disch := omega) only [q51_0, q51_1, g0, g1, g01, rd, rd1, e1, ki, Option.bind_some, sz_lt0, sz_lt, sz_0lt, sz_mul, sz_add, sz_sub, sz_eq0, sz_eq, sz_nat, List.length_map, nb0, nb1, bz_eq0, ↓reduceIte, Int.reduceEq, Int.reduceLT, Int.reduceAdd, Int.reduceSub, Int.reduceMul, Int.reduceNeg]
    rw [if_pos (by omega), if_neg (by omega), if_pos (by omega), if_pos (by omega)]
    rfl
  | succ n ihn =>
    intro v hv hv1 h s hW hs
    obtain ⟨hK, hC, hF⟩ := id hW
    have hlen : (C.set e v).ks.length = C.ks.length := List.length_set ..
    have hb := mulN_bd hC.1.2.1.2 hC.1.1.2
    have hl2 := hC.1.2.2.1
    have hkv := set_k (a := v) he
    obtain ⟨h', e1, e2, e3, e4, e5, e6⟩ := m_tryNext (S := S) (F := F) hK hC hA (i := e) (ch := ch) (by rw [hlen]; exact he) (by omega)
    have htn : (C.set e v).tn e ch = (C.set e (v + 1), !(C.set e (v + 1)).bd e) := by
      unfold Clo.tn
      rw [if_neg (by omega), hkv, set_set]
      rfl
    rw [htn] at e1 e2
    have hF1 := hW.F2 e4 hEp
    have hW1 : sx_TW h' K A B c p q F E m ws es (C.set e (v + 1)) := ⟨e3, e2, hF1⟩
    have g0 := sx_fld_of (f := 0) hF.1 rfl
    have g1 := sx_fld_of (f := 1) hF.1 rfl
    have g01 := sx_fld_of (f := 0) hF1.1 rfl
    have rd := sx_rd_of (S := S) (x := j) hF.2.1 (by rw [hF.2.2]; omega) (by rw [hF.2.2]; omega)
    have rd1 := sx_rd_of (S := S) (x := j) hF1.2.1 (by rw [hF.2.2]; omega) (by rw [hF.2.2]; omega)
    rw [Int.toNat_natCast, hje] at rd rd1
    have fk1 := sx_klass_of hF.1
    obtain ⟨-, -, -, -, -, -, -, -, fk, -, -⟩ := e2.f (S := S)
    have ki := m_kindIn (S := S) e2 (i := e) (by omega)
    rw [set_k he] at ki
    have hvn : ((v + 1).toNat : Int) = v + 1 := by omega
    have hvs : (v + 1 + 1).toNat = (v + 1).toNat + 1 := by omega
    have hT := T_bd (n := r.length) (by omega)
    have hX : (n + 1) * (1 + sx_TT r.length) + 1 = n * (1 + sx_TT r.length) + (1 + sx_TT r.length) + 1 := by rw [Nat.add_mul, Nat.one_mul]
    rw [hX] at hs ⊢
    have hsum : fstk (Clo.fst ch r) C e (v + 1).toNat (n + 1) = if (C.set e (v + 1)).bd e = true then fstk (Clo.fst ch r) C e (v + 1 + 1).toNat n else match Clo.fst ch r (C.set e (v + 1)) with
        | some D => some D
        | none => fstk (Clo.fst ch r) C e (v + 1 + 1).toNat n := by
      rw [hvs, ← hvn]
      rfl
    rw [hsum]
    have go : ∀ (s1 : Int) (hg : sx_H), sx_TW hg K A B c p q F E m ws es (C.set e (v + 1)) → 0 ≤ s1 ∧ s1 + ((n * (1 + sx_TT r.length) + 1 : Nat) : Int) ≤ 900000 → _ := fun s1 hg hWg hsg => ihn (v + 1) (by omega) (by omega) hg s1 hWg hsg
    cases hbd : (C.set e (v + 1)).bd e
    · rw [hbd] at e1
      rw [if_neg (by simp)]
      have st : sx_Ev S 51 23 [some (.ref F), some (.ref c), some (.int (sz ch)), some (.int (sz 1)), some (.int (sz 0)), some (.int (sz j)), some (.int (sz s))] [] h = sx_Ev S 51 23 [some (.ref F), some (.ref c), some (.int (sz ch)), some (.int (sz 1)), some (.int (sz 0)), some (.int (sz ((j + 1 : Nat) : Int))), some (.int (sz (s + 1)))] [] h' := by
        rw [h51_23]
        simp (disch := omega) only [q51_0, q51_1, g0, g1, g01, rd, rd1, e1, ki, Bool.not_false, Option.bind_some, sz_lt0, sz_lt, sz_0lt, sz_mul, sz_add, sz_sub, sz_eq0, sz_eq, sz_nat, List.length_map, nb0, nb1, bz_eq0, ↓reduceIte, Int.reduceEq, Int.reduceLT, Int.reduceAdd, Int.reduceSub, Int.reduceMul, Int.reduceNeg]
        rw [if_pos (by omega), if_neg (by omega), if_pos (by omega), if_pos (by omega), if_neg (by simp)]
        rfl
      obtain ⟨h2, ⟨q4, q5, q6⟩, hq⟩ := ih (v + 1) (by omega) h' (s + 1) hW1 (by omega)
      rcases hq with ⟨qn, qW, t2, qt, qe⟩ | ⟨D, qD, qW, qe⟩
      · rw [qn]
        dsimp only
        obtain ⟨h3, ⟨r4, r5, r6⟩, hr3⟩ := go (s + 1 + t2) h2 qW (by omega)
        refine ⟨h3, ⟨e4.trans (q4.trans r4), by rw [r5, q5, e5], by rw [r6, q6, e6]⟩, ?_⟩
        rw [show ((j + 1 : Nat) : Int) - 1 = (j : Int) by omega] at qe
        rcases hr3 with ⟨rn, rW, t3, rt, re⟩ | ⟨D, rD, rW, re⟩
        · refine Or.inl ⟨rn, rW, 1 + t2 + t3, by omega, ?_⟩
          rw [st, qe, re, show s + 1 + (t2 : Int) + (t3 : Int) = s + ((1 + t2 + t3 : Nat) : Int) by omega]
        · exact Or.inr ⟨D, rD, rW, by rw [st, qe, re]⟩
      · rw [qD]
        exact ⟨h2, ⟨e4.trans q4, by rw [q5, e5], by rw [q6, e6]⟩, Or.inr ⟨D, rfl, qW, by rw [st, qe]⟩⟩
    · rw [hbd] at e1
      rw [if_pos rfl]
      have st : sx_Ev S 51 23 [some (.ref F), some (.ref c), some (.int (sz ch)), some (.int (sz 1)), some (.int (sz 0)), some (.int (sz j)), some (.int (sz s))] [] h = sx_Ev S 51 23 [some (.ref F), some (.ref c), some (.int (sz ch)), some (.int (sz 1)), some (.int (sz 0)), some (.int (sz j)), some (.int (sz (s + 1)))] [] h' := by
        rw [h51_23]
        simp (disch := omega) only [q51_0, q51_1, g0, g1, g01, rd, rd1, e1, ki, Bool.not_true, Option.bind_some, sz_lt0, sz_lt, sz_0lt, sz_mul, sz_add, sz_sub, sz_eq0, sz_eq, sz_nat, List.length_map, nb0, nb1, bz_eq0, ↓reduceIte, Int.reduceEq, Int.reduceLT, Int.reduceAdd, Int.reduceSub, Int.reduceMul, Int.reduceNeg]
        rw [if_pos (by omega), if_neg (by omega), if_pos (by omega), if_pos (by omega), if_neg (by omega)]
      obtain ⟨h3, ⟨r4, r5, r6⟩, hr3⟩ := go (s + 1) h' hW1 (by omega)
      refine ⟨h3, ⟨e4.trans r4, by rw [r5, e5], by rw [r6, e6]⟩, ?_⟩
      rcases hr3 with ⟨rn, rW, t3, rt, re⟩ | ⟨D, rD, rW, re⟩
      · refine Or.inl ⟨rn, rW, 1 + t3, by omega, ?_⟩
        rw [st, re, show s + 1 + (t3 : Int) = s + ((1 + t3 : Nat) : Int) by omega]
      · exact Or.inr ⟨D, rD, rW, by rw [st, re]⟩
theorem m_ex1 {es : List Int} {m ch : Nat} (hch : 1 ≤ ch ∧ ch ≤ 4) (hA : (A ≠ p ∧ A ≠ q) ∧ (B ≠ p ∧ B ≠ q) ∧ p ≠ q) (hEp : (E ≠ p ∧ E ≠ q) ∧ E ≠ A ∧ E ≠ B) (hm : m ≤ 6) : ∀ (r : List Int) (j : Nat) (C : Clo), j + r.length = m → (∀ i : Nat, i < r.length → es.getD (j + i) 0 = r.getD i 0) → (∀ e ∈ r, (0 ≤ e ∧ e < C.ks.length) ∧ C.k e = -1) → r.Nodup → sx_Ex1 S K A B c p q F E ws es m ch j (Clo.fst ch r C) (sx_TT r.length) C C := by
  intro r
  induction r with
  | nil =>
    intro j C hj _ _ _
    have e : j = m := by simpa using hj
    subst e
    exact m_ex1_nil hm
  | cons e r ihr =>
    intro j C hj hes hin hnd
    obtain ⟨he, hke⟩ := hin e List.mem_cons_self
    have hnd2 := List.nodup_cons.mp hnd
    have hl : j + 1 + r.length = m := by simp at hj; omega
    intro h s hW hs
    have e0 : es.getD j 0 = e := by simpa using hes 0 (by simp)
    have T0 : sx_TT (e :: r).length = 4 * (1 + sx_TT r.length) + 1 := rfl
    have b2 : ch * (1 + sx_TT r.length) ≤ 4 * (1 + sx_TT r.length) := Nat.mul_le_mul_right _ hch.2
    obtain ⟨h', q1, q2⟩ := m_ex1_k (S := S) (K := K) (A := A) (B := B) (c := c) (p := p) (q := q) (F := F) (E := E) (ws := ws) (es := es) hch hA hEp he hke hm (by omega) e0 hl (fun v hv => by
      refine ihr (j + 1) (C.set e v) hl (fun i hi => ?_) (fun x hx => ?_) hnd2.2
      · have := hes (i + 1) (by simp; omega)
        rw [show j + (i + 1) = j + 1 + i by omega] at this
        simpa using this
      · obtain ⟨hx1, hx2⟩ := hin x (List.mem_cons_of_mem _ hx)
        refine ⟨by rw [show (C.set e v).ks.length = C.ks.length from List.length_set ..]; exact hx1, ?_⟩
        rw [set_kn he.1 hx1.1 (fun q => hnd2.1 (by rw [← q]; exact hx))]
        exact hx2) ch (-1) (by omega) (by omega) h s (by rw [set_id he hke]; exact hW) (by omega)
    refine ⟨h', q1, ?_⟩
    rcases q2 with ⟨z1, z2, t, z3, z4⟩ | z
    · exact Or.inl ⟨z1, z2, t, by omega, z4⟩
    · exact Or.inr z
theorem m_tryFirst {h : sx_H} {n ch : Nat} {es : List Int} {C : Clo} (hch : 1 ≤ ch ∧ ch ≤ 4) (hA : (A ≠ p ∧ A ≠ q) ∧ (B ≠ p ∧ B ≠ q) ∧ p ≠ q) (hEp : (E ≠ p ∧ E ≠ q) ∧ E ≠ A ∧ E ≠ B) (hW : sx_TW h K A B c p q F E n ws es C) (h6 : C.ems.length ≤ 6) :
    ∃ (h' : sx_H) (n' : Nat) (es' : List Int) (D : Clo) (x : Int), sx_Cl S 51 [.ref F, .ref c, .int (sz ch), .int (sz 1)] h = some (.inl (some (.int (sz x))), h') ∧ ((x = 0 ∧ D = C ∧ (0 < C.own ∨ Clo.fst ch C.ems C = none)) ∨ (x = 1 ∧ ¬ 0 < C.own ∧ Clo.fst ch C.ems C = some D)) ∧ sx_TW h' K A B c p q F E n' ws es' D ∧ sx_kp (fun a => (a = p ∨ a = q) ∨ a = F ∨ a = E) h h' ∧ h'.1.length = h.1.length ∧ h'.2 = h.2 := by
  obtain ⟨hK, hC, hF⟩ := id hW
  have hob := Clo.own_bd hC.1
  by_cases ho : 0 < C.own
  · refine ⟨h, n, es, C, 0, ?_, Or.inl ⟨rfl, rfl, Or.inl ho⟩, hW, sx_kp.refl h, rfl, rfl⟩
    simp (disch := omega) only [c51_q, q51_0, q51_1, m_own hC, Option.bind_some, sz_lt0, sz_lt, sz_0lt, sz_mul, sz_add, sz_sub, sz_eq0, sz_eq, sz_nat, List.length_map, nb0, nb1, bz_eq0, ↓reduceIte, Int.reduceEq, Int.reduceLT, Int.reduceAdd, Int.reduceSub, Int.reduceMul, Int.reduceNeg]
    rw [if_pos ho]
  · obtain ⟨h1, es1, e1, e2, e3, e4, e5, e6, e7, e8⟩ := m_empties (S := S) hK hC hEp hF h6
    have hW1 : sx_TW h1 K A B c p q F E C.ems.length ws es1 C := ⟨e4, e5, e2⟩
    have hT := T_bd h6
    obtain ⟨h2, ⟨q4, q5, q6⟩, hq⟩ := m_ex1 (S := S) (K := K) (A := A) (B := B) (c := c) (p := p) (q := q) (F := F) (E := E) (ws := ws) (es := es1) hch hA hEp h6 C.ems 0 C (by omega) (fun i hi => take_getD e3 rfl hi) (fun e he => by
      have := emf_mem C _ _ e he
      exact ⟨by omega, this.2⟩) (emf_nd C _ _) h1 0 hW1 (by omega)
    have fk1 := sx_klass_of hF.1
    have kp := (e6.mono fun a h => Or.inr h).trans (q4.mono fun a (h : a = p ∨ a = q) => (Or.inl h : (a = p ∨ a = q) ∨ a = F ∨ a = E))
    rcases hq with ⟨z1, z2, t, z3, z4⟩ | ⟨D, z1, z2, z3⟩
    · refine ⟨h2, _, es1, C, 0, ?_, Or.inl ⟨rfl, rfl, Or.inr z1⟩, z2, kp, by rw [q5, e7], by rw [q6, e8]⟩
      simp (disch := omega) only [c51_q, q51_0, q51_1, m_own hC, e1, Option.bind_some, sz_lt0, sz_lt, sz_0lt, sz_mul, sz_add, sz_sub, sz_eq0, sz_eq, sz_nat, List.length_map, nb0, nb1, bz_eq0, ↓reduceIte, Int.reduceEq, Int.reduceLT, Int.reduceAdd, Int.reduceSub, Int.reduceMul, Int.reduceNeg]
      rw [if_neg ho]
      refine Eq.trans z4 ?_
      rw [h51_23]
      simp (disch := omega) only [q51_0, q51_1, Option.bind_some, sz_lt0, sz_lt, sz_0lt, sz_mul, sz_add, sz_sub, sz_eq0, sz_eq, sz_nat, List.length_map, nb0, nb1, bz_eq0, ↓reduceIte, Int.reduceEq, Int.reduceLT, Int.reduceAdd, Int.reduceSub, Int.reduceMul, Int.reduceNeg]
      rw [if_pos (by omega), if_pos (by omega)]
    · refine ⟨h2, _, es1, D, 1, ?_, Or.inr ⟨rfl, ho, z1⟩, z2, kp, by rw [q5, e7], by rw [q6, e8]⟩
      simp (disch := omega) only [c51_q, q51_0, q51_1, m_own hC, e1, Option.bind_some, sz_lt0, sz_lt, sz_0lt, sz_mul, sz_add, sz_sub, sz_eq0, sz_eq, sz_nat, List.length_map, nb0, nb1, bz_eq0, ↓reduceIte, Int.reduceEq, Int.reduceLT, Int.reduceAdd, Int.reduceSub, Int.reduceMul, Int.reduceNeg]
      rw [if_neg ho]
      exact z3
end SXF1
