/-! tryWays, whole: no flag -/
section SXW3
variable {S : List Int32} {K A B c p q F E : Nat} {ws : List Int}
theorem m_ex {es : List Int} {m ch : Nat} (hch : 1 ≤ ch ∧ ch ≤ 4) (hA : (A ≠ p ∧ A ≠ q) ∧ (B ≠ p ∧ B ≠ q) ∧ p ≠ q) (hEp : (E ≠ p ∧ E ≠ q) ∧ E ≠ A ∧ E ≠ B) (hm : m ≤ 6) : ∀ (r : List Int) (j : Nat) (C : Clo), j + r.length = m → (∀ i : Nat, i < r.length → es.getD (j + i) 0 = r.getD i 0) → (∀ e ∈ r, (0 ≤ e ∧ e < C.ks.length) ∧ C.k e = -1) → r.Nodup → sx_Ex S K A B c p q F E ws es m ch j r C := by
  intro r
  induction r with
  | nil =>
    intro j C hj _ _ _
    have e : j = m := by simpa using hj
    subst e
    exact m_ex_nil hm
  | cons e r ihr =>
    intro j C hj hes hin hnd
    obtain ⟨he, hke⟩ := hin e List.mem_cons_self
    have hnd2 := List.nodup_cons.mp hnd
    have hl : j + 1 + r.length = m := by simp at hj; omega
    intro h f s hW hf hs
    have e0 : es.getD j 0 = e := by simpa using hes 0 (by simp)
    have P0 : sx_P4 (e :: r).length = 4 * sx_P4 r.length := rfl
    have T0 : sx_TT (e :: r).length = 4 * (1 + sx_TT r.length) + 1 := rfl
    have b1 : ch * sx_P4 r.length ≤ 4 * sx_P4 r.length := Nat.mul_le_mul_right _ hch.2
    have b2 : ch * (1 + sx_TT r.length) ≤ 4 * (1 + sx_TT r.length) := Nat.mul_le_mul_right _ hch.2
    obtain ⟨h', t, q1, q2, q3⟩ := m_ex_k (S := S) (K := K) (A := A) (B := B) (c := c) (p := p) (q := q) (F := F) (E := E) (ws := ws) (es := es) hch hA hEp he hke hm (by omega) e0 hl (fun v hv => by
      refine ihr (j + 1) (C.set e v) hl (fun i hi => ?_) (fun x hx => ?_) hnd2.2
      · have := hes (i + 1) (by simp; omega)
        rw [show j + (i + 1) = j + 1 + i by omega] at this
        simpa using this
      · obtain ⟨hx1, hx2⟩ := hin x (List.mem_cons_of_mem _ hx)
        refine ⟨by rw [show (C.set e v).ks.length = C.ks.length from List.length_set ..]; exact hx1, ?_⟩
        rw [set_kn he.1 hx1.1 (fun q => hnd2.1 (by rw [← q]; exact hx))]
        exact hx2) ch (-1) h f s (by omega) (by omega) (by rw [set_id he hke]; exact hW) (by omega) (by omega)
    refine ⟨h', t, by omega, ?_, q3⟩
    exact q2
theorem emf_mem (C : Clo) : ∀ (n i : Nat) (e : Int), e ∈ C.emf i n → ((i : Int) ≤ e ∧ e < ((i + n : Nat) : Int)) ∧ C.k e = -1 := by
  intro n
  induction n with
  | zero => intro i e he; cases he
  | succ n ih =>
    intro i e he
    by_cases ek : C.k i = -1
    · rw [Clo.emf, if_pos ek] at he
      rcases List.mem_cons.mp he with rfl | he
      · exact ⟨by omega, ek⟩
      · have := ih (i + 1) e he
        exact ⟨by omega, this.2⟩
    · rw [Clo.emf, if_neg ek] at he
      have := ih (i + 1) e he
      exact ⟨by omega, this.2⟩
theorem emf_nd (C : Clo) : ∀ (n i : Nat), (C.emf i n).Nodup := by
  intro n
  induction n with
  | zero => intro i; exact List.nodup_nil
  | succ n ih =>
    intro i
    by_cases ek : C.k i = -1
    · rw [Clo.emf, if_pos ek]
      refine List.nodup_cons.mpr ⟨fun q => ?_, ih (i + 1)⟩
      have := emf_mem C n (i + 1) _ q
      omega
    · rw [Clo.emf, if_neg ek]; exact ih (i + 1)
theorem take_getD {es r : List Int} {m : Nat} (h : es.take m = r) (hm : r.length = m) {i : Nat} (hi : i < r.length) : es.getD (0 + i) 0 = r.getD i 0 := by
  subst h
  rw [Nat.zero_add, List.getD_eq_getElem?_getD, List.getD_eq_getElem?_getD, List.getElem?_take_of_lt (by omega)]
theorem Clo.own_bd {C : Clo} (hC : C.ok) : 0 ≤ C.own ∧ C.own ≤ 10000 := by
  have k1 := C.br_bd hC 1
  have k2 := C.br_bd hC 2
  have k4 := C.br_bd hC 4
  have k8 := C.br_bd hC 8
  unfold Clo.own
  repeat' split
  all_goals omega
def Clo.ems (C : Clo) : List Int := C.emf 0 C.ks.length
def Clo.waysN (C : Clo) (ch : Nat) : Int := if 0 < C.own then 0 else Clo.nw ch C.ems C
theorem m_tryWays {h : sx_H} {n ch : Nat} {es : List Int} {C : Clo} (hch : 1 ≤ ch ∧ ch ≤ 4) (hA : (A ≠ p ∧ A ≠ q) ∧ (B ≠ p ∧ B ≠ q) ∧ p ≠ q) (hEp : (E ≠ p ∧ E ≠ q) ∧ E ≠ A ∧ E ≠ B) (hW : sx_TW h K A B c p q F E n ws es C) (h6 : C.ems.length ≤ 6) :
    ∃ (h' : sx_H) (n' : Nat) (es' : List Int), sx_Cl S 51 [.ref F, .ref c, .int (sz ch), .int (sz 0)] h = some (.inl (some (.int (sz (C.waysN ch)))), h') ∧ sx_TW h' K A B c p q F E n' ws es' C ∧ sx_kp (fun a => (a = p ∨ a = q) ∨ a = F ∨ a = E) h h' ∧ h'.1.length = h.1.length ∧ h'.2 = h.2 := by
  obtain ⟨hK, hC, hF⟩ := id hW
  have hob := Clo.own_bd hC.1
  by_cases ho : 0 < C.own
  · refine ⟨h, n, es, ?_, hW, sx_kp.refl h, rfl, rfl⟩
    unfold Clo.waysN
    rw [if_pos ho]
    simp (disch := omega) only [c51_q, q51_0, q51_1, m_own hC, Option.bind_some, sz_lt0, sz_lt, sz_0lt, sz_mul, sz_add, sz_sub, sz_eq0, sz_eq, sz_nat, List.length_map, nb0, nb1, bz_eq0, ↓reduceIte, Int.reduceEq, Int.reduceLT, Int.reduceAdd, Int.reduceSub, Int.reduceMul, Int.reduceNeg]
    rw [if_pos ho]
  · obtain ⟨h1, es1, e1, e2, e3, e4, e5, e6, e7, e8⟩ := m_empties (S := S) hK hC hEp hF h6
    have hW1 : sx_TW h1 K A B c p q F E C.ems.length ws es1 C := ⟨e4, e5, e2⟩
    have hP := P4_bd h6
    have hT := T_bd h6
    obtain ⟨h2, t, q1, q2, q3, q4, q5, q6⟩ := m_ex (S := S) (K := K) (A := A) (B := B) (c := c) (p := p) (q := q) (F := F) (E := E) (ws := ws) (es := es1) hch hA hEp h6 C.ems 0 C (by omega) (fun i hi => take_getD e3 rfl hi) (fun e he => by
      have := emf_mem C _ _ e he
      exact ⟨by omega, this.2⟩) (emf_nd C _ _) h1 0 0 hW1 (by omega) (by omega)
    have hnw := nw_bd (ch := ch) hch.2 C.ems C
    have fk1 := sx_klass_of hF.1
    refine ⟨h2, _, es1, ?_, q3, (e6.mono fun a h => Or.inr h).trans (q4.mono fun a h => Or.inl h), by rw [q5, e7], by rw [q6, e8]⟩
    unfold Clo.waysN
    rw [if_neg ho]
    simp (disch := omega) only [c51_q, q51_0, q51_1, m_own hC, e1, Option.bind_some, sz_lt0, sz_lt, sz_0lt, sz_mul, sz_add, sz_sub, sz_eq0, sz_eq, sz_nat, List.length_map, nb0, nb1, bz_eq0, ↓reduceIte, Int.reduceEq, Int.reduceLT, Int.reduceAdd, Int.reduceSub, Int.reduceMul, Int.reduceNeg]
    rw [if_neg ho]
    refine Eq.trans q2 ?_
    rw [h51_23]
    simp (disch := omega) only [q51_0, q51_1, Option.bind_some, sz_lt0, sz_lt, sz_0lt, sz_mul, sz_add, sz_sub, sz_eq0, sz_eq, sz_nat, List.length_map, nb0, nb1, bz_eq0, ↓reduceIte, Int.reduceEq, Int.reduceLT, Int.reduceAdd, Int.reduceSub, Int.reduceMul, Int.reduceNeg]
    rw [if_pos (by omega), if_pos (by omega), Int.zero_add]
end SXW3
