/-! THE SIMULATION: where the shadow machine comes to an end, the real one does, with the same answer -/
def sx_Pre (D : va_G) (cA : Nat → ClassId) (b sa sv base : Nat) (S : List Int32) (as : List Value) (h : sx_H) : Array Value → State → Prop :=
  va_Pc (as.map (sx_cv (sx_ad b sa base))) (fun U => sx_Env D cA b sa sv base S U ∧ sx_Rep D (sx_ad b sa base) cA base h U.heap)
def sx_Qc (D : va_G) (cA : Nat → ClassId) (b sa base : Nat) (r : sx_R) : Array Value → State → Outcome → State → Prop := fun _ st o t =>
  ∃ v, r.1 = .inl v ∧ o = .returned (v.map (sx_cv (sx_ad b sa base))) ∧ sx_Rep D (sx_ad b sa base) cA base r.2 t.heap ∧ ∀ q : Nat, q < base → t.heap[q]? = st.heap[q]?
def sx_XC (D : va_G) (cA : Nat → ClassId) (b sa base : Nat) (r : sx_R) : String → State → State → Prop := fun E st t =>
  ∃ e, e < 5 ∧ r.1 = .inr e ∧ E = sx_en e ∧ sx_Rep D (sx_ad b sa base) cA base r.2 t.heap ∧ ∀ q : Nat, q < base → t.heap[q]? = st.heap[q]?
def sx_ws (j : Nat) : List Cond := sx_hd j :: sx_W
def sx_rm (j mc ms : Nat) : Room := { frames := sx_fr j, cells := mc, slots := ms, locals := sx_lo j }
def sx_Con (l : Launch) (D : va_G) (cA : Nat → ClassId) (b sa sv base : Nat) (S : List Int32) (j : Nat) (as : List Value) (h : sx_H) (r : sx_R) : Prop :=
  vx_Met l (sx_y j) (sx_ws j) (sx_rm j (r.2.1.length - h.1.length) (r.2.2 - h.2)) (sx_Pre D cA b sa sv base S as h) (sx_Qc D cA b sa base r) (sx_XC D cA b sa base r) (r.2.1.length - h.1.length) (r.2.2 - h.2) (sx_A base)
/-- growth -/
def sx_le (h h1 : sx_H) : Prop := h.1.length ≤ h1.1.length ∧ h.2 ≤ h1.2
def sx_mo (h : sx_H) : sx_O → Prop
  | .inl (_, h1) => sx_le h h1
  | .inr (.inl r) => sx_le h r.2
  | .inr (.inr (_, _, _, h1)) => h1 = h
theorem sx_le_refl (h : sx_H) : sx_le h h := ⟨Nat.le_refl _, Nat.le_refl _⟩
theorem sx_le_set (h : sx_H) (a : Nat) (c : sx_C) : sx_le h (sx_set h a c) := ⟨by simp [sx_set], Nat.le_refl _⟩
theorem sx_le_push (h : sx_H) (c : Option sx_C) (n : Nat) : sx_le h (sx_push h c n) := ⟨by simp [sx_push], by simp [sx_push]⟩
theorem sx_mo_nx {pc : Nat} {ls : sx_L} {st : List Value} {h h1 : sx_H} {o : sx_O} (e : sx_nx pc ls st h1 = some o) (hl : sx_le h h1) : sx_mo h o := by
  unfold sx_nx at e
  cases e
  exact hl
theorem sx_mo_dn {x : Option Value ⊕ Nat} {h h1 : sx_H} {o : sx_O} (e : sx_dn x h1 = some o) (hl : sx_le h h1) : sx_mo h o := by
  unfold sx_dn at e
  cases e
  exact hl
theorem sx_mo_ca {j pc : Nat} {as : List Value} {ls : sx_L} {st : List Value} {h : sx_H} {o : sx_O} (e : sx_ca j as pc ls st h = some o) : sx_mo h o := by
  unfold sx_ca at e
  cases e
  rfl
set_option maxHeartbeats 4000000 in
theorem sx_step_mo {S : List Int32} {k len pc : Nat} {i : Instr} {ls : sx_L} {st : List Value} {h : sx_H} {o : sx_O} (e : sx_step S k i len pc ls st h = some o) : sx_mo h o := by
  cases i
  all_goals dsimp only [sx_step, sx_i1, sx_i2, sx_br, sx_jump, sx_callV, sx_callS, sx_callI] at e
  all_goals (repeat' (split at e))
  all_goals first
    | exact sx_mo_nx e (sx_le_refl _)
    | exact sx_mo_nx e (sx_le_set _ _ _)
    | exact sx_mo_nx e (sx_le_push _ _ _)
    | exact sx_mo_dn e (sx_le_refl _)
    | exact sx_mo_dn e (sx_le_push _ _ _)
    | exact sx_mo_ca e
    | cases e
theorem sx_run_mo (S : List Int32) : ∀ (n k : Nat) (F : sx_F) (h : sx_H) (r : sx_R), sx_run S n k F h = some r → sx_le h r.2 := by
  intro n
  induction n with
  | zero => intro k F h r e; cases e
  | succ n ih =>
    intro k F h r e
    rw [sx_run] at e
    cases hc : sx_code k F.1 with
    | none => rw [hc] at e; cases e
    | some q =>
      obtain ⟨i, len⟩ := q
      rw [hc] at e
      dsimp only at e
      cases hs : sx_step S k i len F.1 F.2.1 F.2.2 h with
      | none => rw [hs] at e; cases e
      | some o =>
        rw [hs] at e
        have hm := sx_step_mo hs
        obtain ⟨F1, h1⟩ | r1 | ⟨j, as, F1, h1⟩ := o
        · have h2 := ih _ _ _ _ e
          exact ⟨Nat.le_trans hm.1 h2.1, Nat.le_trans hm.2 h2.2⟩
        · cases e
          exact hm
        · have hm : h1 = h := hm
          subst hm
          dsimp only at e
          cases hg : sx_enter j as with
          | none => rw [hg] at e; cases e
          | some G =>
            rw [hg] at e
            dsimp only at e
            cases hr : sx_run S n j G h1 with
            | none => rw [hr] at e; cases e
            | some r1 =>
              rw [hr] at e
              have h3 := ih _ _ _ _ hr
              obtain ⟨v | x, h2⟩ := r1
              · have h4 := ih _ _ _ _ e
                exact ⟨Nat.le_trans h3.1 h4.1, Nat.le_trans h3.2 h4.2⟩
              · dsimp only at e
                cases hh : sx_hand k F1.1 x with
                | none => rw [hh] at e; cases e; exact h3
                | some q =>
                  rw [hh] at e
                  dsimp only at e
                  cases hq : sx_caught k q with
                  | none => rw [hq] at e; cases e
                  | some z =>
                    rw [hq] at e
                    dsimp only at e
                    split at e
                    · have h4 := ih _ _ _ _ e
                      exact ⟨Nat.le_trans h3.1 h4.1, Nat.le_trans h3.2 h4.2⟩
                    · cases e
/-- what the tables say of a method -/
theorem sx_mfacts {j : Nat} (hj : j < 121) : sx_hd j ∈ sx_W ∧ Cond.initialized (sx_y j).cls ∈ sx_W ∧ (sx_st j = true → Cond.static (sx_y j) ∈ sx_W) ∧ (sx_st j = false → Cond.instanceMethod (sx_y j) ∈ sx_W) ∧
    (sx_st j = false → sx_isI j = false → Cond.selects (sx_y j).cls (sx_y j) (sx_y j) ∈ sx_W) ∧ (parseMethodDescriptor (sx_y j).desc).map (fun d => d.parameters.length) = some (if sx_st j = true then sx_np j else sx_np j - 1) ∧
    ((sx_y j).cls ≠ "java/lang/invoke/MethodHandle" ∧ (sx_y j).cls ≠ "java/lang/invoke/VarHandle") ∧ plainFor (sx_y j) = true ∧ sx_np j ≤ sx_ml j ∧ (sx_y j).cls = sx_cn (sx_own j) ∧ sx_isI j = decide ((sx_y j).name = "<init>") ∧
    (sx_isI j = true → sx_rt j = none) ∧ (sx_st j = false → 1 ≤ sx_np j) := by
  have h := sx_mok_at j hj
  simp only [sx_okM, Bool.and_eq_true, decide_eq_true_eq, Bool.or_eq_true, Bool.not_eq_true'] at h
  obtain ⟨h1, h2, h3, h4, h5, h6, h7, h8, h9, h10, h11, h12⟩ := h
  have ghd : goodWord (sx_hd j) = true := by
    unfold sx_hd
    split <;> rfl
  refine ⟨sx_inW h1 ghd, sx_inW h2 rfl, fun hs => ?_, fun hs => ?_, fun hs hi => ?_, h5, h6, ?_, h8, h9, h10, fun hi => ?_, fun hs => ?_⟩
  · rw [if_pos hs] at h3
    exact sx_inW (of_decide_eq_true h3) rfl
  · rw [if_neg (by rw [hs]; decide)] at h3
    exact sx_inW (of_decide_eq_true h3) rfl
  · rcases h4 with h4 | h4 | h4
    · rw [hs] at h4; cases h4
    · rw [hi] at h4; cases h4
    · exact sx_inW h4 rfl
  · rcases h7 with h7 | rfl | rfl
    · exact plainFor_of_name h7
    · exact sx_pf35
    · exact sx_pf96
  · rcases h11 with h | h
    · rw [hi] at h; cases h
    · exact h
  · rcases h12 with h | h
    · rw [hs] at h; cases h
    · exact h
theorem sx_goodW {ws : List Cond} (h : ∀ w ∈ ws, w ∈ sx_W) : GoodIn sx_W ws := fun w hw => ⟨h w hw, good_of_word (List.mem_filter.mp (h w hw)).2⟩
theorem sx_ws_in {j : Nat} (hj : j < 121) : ∀ w ∈ sx_ws j, w ∈ sx_W := fun w hw => (List.mem_cons.mp hw).elim (fun e => e ▸ (sx_mfacts hj).1) id
theorem sx_hd_code {j : Nat} (h : sx_hh j = []) : sx_ws j = Cond.code (sx_y j) (sx_b j) (sx_ml j) (sx_rt j) :: sx_W := by
  unfold sx_ws sx_hd
  rw [h]
theorem sx_hd_with {j : Nat} (h : sx_hh j ≠ []) : sx_ws j = Cond.codeWith (sx_y j) (sx_b j) (sx_ml j) (sx_rt j) (sx_hh j) :: sx_W := by
  unfold sx_ws sx_hd
  split
  · rename_i e; exact absurd e h
  · rename_i e; rw [e]
theorem sx_blind {D : va_G} {cA : Nat → ClassId} {b sa sv base : Nat} {S : List Int32} {as : List Value} {h : sx_H} : FrameBlind (sx_Pre D cA b sa sv base S as h) := fun a U g mk q =>
  ⟨q.1, q.2.1.moved (s := U) (U := U.calling g mk a) (State.WarmedH.refl U) q.2.1.2.1.2.2 (fun _ _ => rfl), q.2.2⟩
set_option maxHeartbeats 4000000 in
theorem sx_call_shape {S : List Int32} {k len pc : Nat} {i : Instr} {ls : sx_L} {st : List Value} {h : sx_H} {j pc1 : Nat} {as st1 : List Value} {ls1 : sx_L} {h1 : sx_H} (e : sx_step S k i len pc ls st h = some (.inr (.inr (j, as, (pc1, ls1, st1), h1)))) : pc1 = pc ∧ ls1 = ls ∧ j < 121 := by
  have key : ∀ {idx t j0 z1 z2 : Nat}, sx_pool (sx_own k) idx = some (t, j0, z1, z2) → (t = 4 ∨ t = 5 ∨ t = 6 ∨ t = 7 ∨ t = 8) → j0 < 121 := by
    intro idx t j0 z1 z2 hp ht
    have h9 := sx_pool_ok hp
    rcases ht with rfl | rfl | rfl | rfl | rfl <;> simp only [sx_okP, Bool.and_eq_true, decide_eq_true_eq] at h9 <;> omega
  cases i
  case invokevirtual idx =>
    dsimp only [sx_step, sx_callV] at e
    repeat' (split at e)
    all_goals first
      | (unfold sx_ca at e
         simp only [Option.some.injEq, Sum.inr.injEq, Prod.mk.injEq] at e
         obtain ⟨rfl, rfl, ⟨rfl, rfl, rfl⟩, rfl⟩ := e
         refine ⟨rfl, rfl, ?_⟩
         rename_i hp _ _ _ _ _ _ _ _
         exact key (by assumption) (Or.inl rfl))
      | cases e
  case invokestatic idx =>
    dsimp only [sx_step, sx_callS] at e
    repeat' (split at e)
    all_goals first
      | (unfold sx_ca at e
         simp only [Option.some.injEq, Sum.inr.injEq, Prod.mk.injEq] at e
         obtain ⟨rfl, rfl, ⟨rfl, rfl, rfl⟩, rfl⟩ := e
         rename_i hn
         exact ⟨rfl, rfl, key (by assumption) (hn.1.elim (fun q => Or.inr (Or.inl q)) (fun q => Or.inr (Or.inr (Or.inl q))))⟩)
      | cases e
  case invokespecial idx =>
    dsimp only [sx_step, sx_callI] at e
    split at e
    · repeat' (split at e)
      all_goals cases e
    · rename_i t j0 z1 z2 hne hp
      split at e
      · rename_i hn
        split at e
        · unfold sx_ca at e
          simp only [Option.some.injEq, Sum.inr.injEq, Prod.mk.injEq] at e
          obtain ⟨rfl, rfl, ⟨rfl, rfl, rfl⟩, rfl⟩ := e
          exact ⟨rfl, rfl, key hp (hn.1.elim (fun q => Or.inr (Or.inr (Or.inr (Or.inl q)))) (fun q => Or.inr (Or.inr (Or.inr (Or.inr q)))))⟩
        · cases e
      · cases e
    · cases e
  case' ifCond cd off => cases cd
  case' if_icmp cd off => cases cd
  case' newarray t9 => cases t9
  all_goals exfalso
  all_goals dsimp only [sx_step, sx_i1, sx_i2, sx_br, sx_jump, sx_nx, sx_dn] at e
  all_goals (repeat' (split at e))
  all_goals cases e
theorem sx_call_same {S : List Int32} {k len pc : Nat} {i : Instr} {ls : sx_L} {st : List Value} {h : sx_H} {j pc1 : Nat} {as st1 : List Value} {ls1 : sx_L} {h1 : sx_H} (e : sx_step S k i len pc ls st h = some (.inr (.inr (j, as, (pc1, ls1, st1), h1)))) : pc1 = pc ∧ ls1 = ls := ⟨(sx_call_shape e).1, (sx_call_shape e).2.1⟩
theorem sx_call_lt {S : List Int32} {k len pc : Nat} {i : Instr} {ls : sx_L} {st : List Value} {h : sx_H} {j pc1 : Nat} {as st1 : List Value} {ls1 : sx_L} {h1 : sx_H} (e : sx_step S k i len pc ls st h = some (.inr (.inr (j, as, (pc1, ls1, st1), h1)))) : j < 121 := (sx_call_shape e).2.2
