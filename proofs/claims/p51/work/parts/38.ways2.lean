/-! tryWays, whole: no flag -/
section SXW3
variable {S : List Int32} {K A B c p q F E : Nat} {ws : List Int}
theorem m_ex {es : List Int} {m ch : Nat} (hch : 1 ≤ ch ∧ ch ≤ 4) (hA : (A ≠ p ∧ A ≠ q) ∧ (B ≠ p ∧ B ≠ q) ∧ p ≠ q) (hEp : (E ≠ p ∧ E ≠ q) ∧ E ≠ A ∧ E ≠ B) (hm : m ≤ 6) : ∀ (r : List Int) (j : Nat) (C : Clo), j + r.length = m → (∀ i : Nat, i < r.length → es.getD (j + i) 0 = r.getD i 0) → (∀ e ∈ r, (0 ≤ e ∧ e < C.ks.length) ∧ C.k e = -1) → r.Nodup → sx_Ex S K A B c p q F E ws es m ch j r C := by
  intro r
  induction r with
  | nil =>
    intro j C hj _ _ _
    have e : j = m := by simpa using hj
    subst e
    exact m_ex_nil hm
  | cons e r ihr =>
    intro j C hj hes hin hnd
    obtain ⟨he, hke⟩ := hin e List.mem_cons_self
    have hnd2 := List.nodup_cons.mp hnd
    have hl : j + 1 + r.length = m := by simp at hj; omega
    intro h f s hW hf hs
    have e0 : es.getD j 0 = e := by simpa using hes 0 (by simp)
    have P0 : sx_P4 (e :: r).length = 4 * sx_P4 r.length := rfl
    have T0 : sx_TT (e :: r).length = 4 * (1 + sx_TT r.length) + 1 := rfl
    have b1 : ch * sx_P4 r.length ≤ 4 * sx_P4 r.length := Nat.mul_le_mul_right _ hch.2
    have b2 : ch * (1 + sx_TT r.length) ≤ 4 * (1 + sx_TT r.length) := Nat.mul_le_mul_right _ hch.2
    obtain ⟨h', t, q1, q2, q3⟩ := m_ex_k (S := S) (K := K) (A := A) (B := B) (c := c) (p := p) (q := q) (F := F) (E := E) (ws := ws) (es := es) hch hA hEp he hke hm (by omega) e0 hl (fun v hv => by
      refine ihr (j + 1) (C.set e v) hl (fun i hi => ?_) (fun x hx => ?_) hnd2.2
      · have := hes (i + 1) (by simp; omega)
        rw [show j + (i + 1) = j + 1 + i by omega] at this
        simpa using this
      · obtain ⟨hx1, hx2⟩ := hin x (List.mem_cons_of_mem _ hx)
        refine ⟨by rw [show (C.set e v).ks.length = C.ks.length from List.length_set ..]; exact hx1, ?_⟩
        rw [set_kn he.1 hx1.1 (fun q => hnd2.1 (by rw [← q]; exact hx))]
        exact hx2) ch (-1) h f s (by omega) (by omega) (by rw [set_id he hke]; exact hW) (by omega) (by omega)
    refine ⟨h', t, by omega, ?_, q3⟩
    exact q2
end SXW3
