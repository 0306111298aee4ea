/-! EQUATIONS of the shadow machine, one a kind of instruction -/
noncomputable def sx_K (S : List Int32) (k : Nat) (o : Option sx_O) : Option sx_R := match o with
  | none => none
  | some (.inl (F, h)) => sx_Ev S k F.1 F.2.1 F.2.2 h
  | some (.inr (.inl r)) => some r
  | some (.inr (.inr (j, as, F, h))) => sx_back S k F.1 F.2.1 F.2.2 (sx_Cl S j as h)
section SXE
variable {S : List Int32} {k pc n : Nat} {ls : sx_L} {st : List Value} {h : sx_H} {i : Instr}
theorem sx_Ev_K (hc : sx_code k pc = some (i, n)) : sx_Ev S k pc ls st h = sx_K S k (sx_step S k i n pc ls st h) := by
  cases hs : sx_step S k i n pc ls st h with
  | none =>
    refine sx_Ev_none fun r m hm => ?_
    cases m with
    | zero => cases hm
    | succ m =>
      rw [sx_run] at hm
      simp only [hc, hs] at hm
      cases hm
  | some o =>
    obtain ⟨F1, h1⟩ | r | ⟨j, as, ⟨pc1, ls1, st1⟩, h1⟩ := o
    · exact sx_Ev_go hc hs
    · exact sx_Ev_done hc hs
    · exact sx_Ev_call hc hs
theorem sx_e_nx {pc' : Nat} {ls' : sx_L} {st' : List Value} {h' : sx_H} (hc : sx_code k pc = some (i, n)) (hs : sx_step S k i n pc ls st h = sx_nx pc' ls' st' h') : sx_Ev S k pc ls st h = sx_Ev S k pc' ls' st' h' := by
  rw [sx_Ev_K hc, hs]; rfl
theorem sx_e_dn {o : Option Value ⊕ Nat} {h' : sx_H} (hc : sx_code k pc = some (i, n)) (hs : sx_step S k i n pc ls st h = sx_dn o h') : sx_Ev S k pc ls st h = some (o, h') := by
  rw [sx_Ev_K hc, hs]; rfl
theorem sx_e_ca {j : Nat} {as r : List Value} (hc : sx_code k pc = some (i, n)) (hs : sx_step S k i n pc ls st h = sx_ca j as pc ls r h) : sx_Ev S k pc ls st h = sx_back S k pc ls r (sx_Cl S j as h) := by
  rw [sx_Ev_K hc, hs]; rfl
theorem sx_br_of {c : Prop} [Decidable c] {off : Int} {t : Nat} {r : List Value} (ht : (pc : Int) + off = (t : Int)) : sx_br c pc off ls r h = if c then sx_nx t ls r h else sx_nx (pc + 3) ls r h := by
  unfold sx_br sx_jump
  rw [if_pos (by omega), ht]
  rfl
theorem sx_K_if {c : Prop} [Decidable c] {t f : Nat} {r : List Value} : sx_K S k (if c then sx_nx t ls r h else sx_nx f ls r h) = if c then sx_Ev S k t ls r h else sx_Ev S k f ls r h := by
  split <;> rfl
theorem sx_K_ifn {c d : Prop} [Decidable c] [Decidable d] (hcd : c ↔ ¬ d) {t f : Nat} {r : List Value} : sx_K S k (if c then sx_nx t ls r h else sx_nx f ls r h) = if d then sx_Ev S k f ls r h else sx_Ev S k t ls r h := by
  by_cases hd : d
  · rw [if_pos hd, if_neg (fun q => hcd.mp q hd)]; rfl
  · rw [if_neg hd, if_pos (hcd.mpr hd)]; rfl
variable {off : Int} {t f : Nat} {x y : Int32} {r : List Value}
theorem sx_e_eq (hc : sx_code k pc = some (.ifCond .eq off, n)) (ht : (pc : Int) + off = (t : Int)) (hf : pc + 3 = f) : sx_Ev S k pc ls (.int x :: r) h = if x = 0 then sx_Ev S k t ls r h else sx_Ev S k f ls r h := by
  subst hf; rw [sx_Ev_K hc]; simp only [sx_step, sx_i1, sx_br_of ht]; exact sx_K_if
theorem sx_e_ne (hc : sx_code k pc = some (.ifCond .ne off, n)) (ht : (pc : Int) + off = (t : Int)) (hf : pc + 3 = f) : sx_Ev S k pc ls (.int x :: r) h = if x = 0 then sx_Ev S k f ls r h else sx_Ev S k t ls r h := by
  subst hf; rw [sx_Ev_K hc]; simp only [sx_step, sx_i1, sx_br_of ht]; exact sx_K_ifn Iff.rfl
theorem sx_e_lt (hc : sx_code k pc = some (.ifCond .lt off, n)) (ht : (pc : Int) + off = (t : Int)) (hf : pc + 3 = f) : sx_Ev S k pc ls (.int x :: r) h = if x < 0 then sx_Ev S k t ls r h else sx_Ev S k f ls r h := by
  subst hf; rw [sx_Ev_K hc]; simp only [sx_step, sx_i1, sx_br_of ht]; exact sx_K_if
theorem sx_e_ge (hc : sx_code k pc = some (.ifCond .ge off, n)) (ht : (pc : Int) + off = (t : Int)) (hf : pc + 3 = f) : sx_Ev S k pc ls (.int x :: r) h = if x < 0 then sx_Ev S k f ls r h else sx_Ev S k t ls r h := by
  subst hf; rw [sx_Ev_K hc]; simp only [sx_step, sx_i1, sx_br_of ht]; exact sx_K_ifn Int32.not_lt.symm
theorem sx_e_gt (hc : sx_code k pc = some (.ifCond .gt off, n)) (ht : (pc : Int) + off = (t : Int)) (hf : pc + 3 = f) : sx_Ev S k pc ls (.int x :: r) h = if 0 < x then sx_Ev S k t ls r h else sx_Ev S k f ls r h := by
  subst hf; rw [sx_Ev_K hc]; simp only [sx_step, sx_i1, sx_br_of ht]; exact sx_K_if
theorem sx_e_le (hc : sx_code k pc = some (.ifCond .le off, n)) (ht : (pc : Int) + off = (t : Int)) (hf : pc + 3 = f) : sx_Ev S k pc ls (.int x :: r) h = if 0 < x then sx_Ev S k f ls r h else sx_Ev S k t ls r h := by
  subst hf; rw [sx_Ev_K hc]; simp only [sx_step, sx_i1, sx_br_of ht]; exact sx_K_ifn Int32.not_lt.symm
theorem sx_e_ieq (hc : sx_code k pc = some (.if_icmp .eq off, n)) (ht : (pc : Int) + off = (t : Int)) (hf : pc + 3 = f) : sx_Ev S k pc ls (.int y :: .int x :: r) h = if x = y then sx_Ev S k t ls r h else sx_Ev S k f ls r h := by
  subst hf; rw [sx_Ev_K hc]; simp only [sx_step, sx_i2, sx_br_of ht]; exact sx_K_if
theorem sx_e_ine (hc : sx_code k pc = some (.if_icmp .ne off, n)) (ht : (pc : Int) + off = (t : Int)) (hf : pc + 3 = f) : sx_Ev S k pc ls (.int y :: .int x :: r) h = if x = y then sx_Ev S k f ls r h else sx_Ev S k t ls r h := by
  subst hf; rw [sx_Ev_K hc]; simp only [sx_step, sx_i2, sx_br_of ht]; exact sx_K_ifn Iff.rfl
theorem sx_e_ilt (hc : sx_code k pc = some (.if_icmp .lt off, n)) (ht : (pc : Int) + off = (t : Int)) (hf : pc + 3 = f) : sx_Ev S k pc ls (.int y :: .int x :: r) h = if x < y then sx_Ev S k t ls r h else sx_Ev S k f ls r h := by
  subst hf; rw [sx_Ev_K hc]; simp only [sx_step, sx_i2, sx_br_of ht]; exact sx_K_if
theorem sx_e_ige (hc : sx_code k pc = some (.if_icmp .ge off, n)) (ht : (pc : Int) + off = (t : Int)) (hf : pc + 3 = f) : sx_Ev S k pc ls (.int y :: .int x :: r) h = if x < y then sx_Ev S k f ls r h else sx_Ev S k t ls r h := by
  subst hf; rw [sx_Ev_K hc]; simp only [sx_step, sx_i2, sx_br_of ht]; exact sx_K_ifn Int32.not_lt.symm
theorem sx_e_igt (hc : sx_code k pc = some (.if_icmp .gt off, n)) (ht : (pc : Int) + off = (t : Int)) (hf : pc + 3 = f) : sx_Ev S k pc ls (.int y :: .int x :: r) h = if y < x then sx_Ev S k t ls r h else sx_Ev S k f ls r h := by
  subst hf; rw [sx_Ev_K hc]; simp only [sx_step, sx_i2, sx_br_of ht]; exact sx_K_if
theorem sx_e_ile (hc : sx_code k pc = some (.if_icmp .le off, n)) (ht : (pc : Int) + off = (t : Int)) (hf : pc + 3 = f) : sx_Ev S k pc ls (.int y :: .int x :: r) h = if y < x then sx_Ev S k f ls r h else sx_Ev S k t ls r h := by
  subst hf; rw [sx_Ev_K hc]; simp only [sx_step, sx_i2, sx_br_of ht]; exact sx_K_ifn Int32.not_lt.symm
theorem sx_e_goto (hc : sx_code k pc = some (.goto off, n)) (ht : (pc : Int) + off = (t : Int)) : sx_Ev S k pc ls st h = sx_Ev S k t ls st h := by
  rw [sx_Ev_K hc]; simp only [sx_step, sx_jump, if_pos (show 0 ≤ (pc : Int) + off by omega), ht]; rfl
theorem sx_e_nnR {a : Nat} (hc : sx_code k pc = some (.ifnonnull off, n)) (ht : (pc : Int) + off = (t : Int)) : sx_Ev S k pc ls (.ref a :: r) h = sx_Ev S k t ls r h := by
  rw [sx_Ev_K hc]; simp only [sx_step, sx_jump, if_pos (show 0 ≤ (pc : Int) + off by omega), ht]; rfl
theorem sx_e_div (hc : sx_code k pc = some (.idiv, n)) (hf : pc + n = f) : sx_Ev S k pc ls (.int y :: .int x :: r) h = if y = 0 then none else sx_Ev S k f ls (.int (x / y) :: r) h := by
  subst hf; rw [sx_Ev_K hc]; simp only [sx_step, sx_i2]; split <;> rfl
theorem sx_e_rem (hc : sx_code k pc = some (.irem, n)) (hf : pc + n = f) : sx_Ev S k pc ls (.int y :: .int x :: r) h = if y = 0 then none else sx_Ev S k f ls (.int (x - x / y * y) :: r) h := by
  subst hf; rw [sx_Ev_K hc]; simp only [sx_step, sx_i2]; split <;> rfl
/-! the heap's own partial answers -/
def sx_fld (h : sx_H) (a ci f : Nat) : Option Value := match sx_obj h a with
  | some (cj, fs) => if cj = ci then fs[f]? else none
  | none => none
def sx_fst (h : sx_H) (a ci f : Nat) (v : Value) : Option sx_H := match sx_obj h a with
  | some (cj, fs) => if cj = ci ∧ f < fs.length then some (sx_set h a (.inr (.inr (ci, fs.set f v)))) else none
  | none => none
def sx_klass (h : sx_H) (a : Nat) : Option Nat := (sx_obj h a).map fun o => o.1
def sx_rd (S : List Int32) (h : sx_H) (a : Nat) (x : Int32) : Option Int32 := match sx_ints S h a with
  | some xs => if x < 0 ∨ xs.length ≤ x.toNatClampNeg then none else some (xs.getD x.toNatClampNeg 0)
  | none => none
def sx_wr (h : sx_H) (a : Nat) (x v : Int32) : Option sx_H := match sx_get h a with
  | some (.inl xs) => if x < 0 ∨ xs.length ≤ x.toNatClampNeg then none else some (sx_set h a (.inl (xs.set x.toNatClampNeg v)))
  | _ => none
def sx_rdA (h : sx_H) (a : Nat) (x : Int32) : Option (Option Nat) := match sx_get h a with
  | some (.inr (.inl (t, rs))) => if x < 0 ∨ 2 ≤ t ∨ rs.length ≤ x.toNatClampNeg then none else some (rs.getD x.toNatClampNeg none)
  | _ => none
def sx_wrA (h : sx_H) (a : Nat) (x : Int32) (v : Nat) : Option sx_H := match sx_get h a with
  | some (.inr (.inl (t, rs))) => if t = 0 ∧ (sx_obj h v).map (fun o => o.1) = some 0 then (if x < 0 ∨ rs.length ≤ x.toNatClampNeg then none else some (sx_set h a (.inr (.inl (t, rs.set x.toNatClampNeg (some v)))))) else none
  | _ => none
variable {a idx ci fi tg z : Nat} {v : Value}
theorem sx_e_getf (hc : sx_code k pc = some (.getfield idx, n)) (hp : sx_pool (sx_own k) idx = some (tg, ci, fi, z)) (ht : tg ≤ 1) (hf : pc + n = f) : sx_Ev S k pc ls (.ref a :: r) h = (sx_fld h a ci fi).bind fun v => sx_Ev S k f ls (v :: r) h := by
  subst hf; rw [sx_Ev_K hc]; simp only [sx_step, hp, if_pos ht, sx_fld]
  cases sx_obj h a with
  | none => rfl
  | some o =>
    obtain ⟨cj, fs⟩ := o
    dsimp only
    by_cases e : cj = ci
    · rw [if_pos e, if_pos e]
      cases fs[fi]? <;> rfl
    · rw [if_neg e, if_neg e]; rfl
theorem sx_e_putf (hc : sx_code k pc = some (.putfield idx, n)) (hp : sx_pool (sx_own k) idx = some (tg, ci, fi, z)) (hq : tg ≤ 1 ∧ ((sx_T ci fi).2.2.2 = false ∨ (tg = 0 ∧ sx_isI k = true ∧ sx_cx (sx_own k) = ci))) (hv : fits (sx_ty ci fi) v = true ∧ narrow (sx_ty ci fi) v = v) (hf : pc + n = f) : sx_Ev S k pc ls (v :: .ref a :: r) h = (sx_fst h a ci fi v).bind fun h' => sx_Ev S k f ls r h' := by
  subst hf; rw [sx_Ev_K hc]; simp only [sx_step, hp, if_pos (show tg ≤ 1 ∧ ((sx_T ci fi).2.2.2 = false ∨ (tg = 0 ∧ sx_isI k = true ∧ sx_cx (sx_own k) = ci)) ∧ fits (sx_ty ci fi) v = true ∧ narrow (sx_ty ci fi) v = v from ⟨hq.1, hq.2, hv.1, hv.2⟩), sx_fst]
  cases sx_obj h a with
  | none => rfl
  | some o =>
    obtain ⟨cj, fs⟩ := o
    dsimp only
    split <;> rfl
theorem sx_e_iald (hc : sx_code k pc = some (.iaload, n)) (hf : pc + n = f) : sx_Ev S k pc ls (.int x :: .ref a :: r) h = (sx_rd S h a x).bind fun v => sx_Ev S k f ls (.int v :: r) h := by
  subst hf; rw [sx_Ev_K hc]; simp only [sx_step, sx_rd]
  cases sx_ints S h a with
  | none => rfl
  | some xs => dsimp only; split <;> rfl
theorem sx_e_iast (hc : sx_code k pc = some (.iastore, n)) (hf : pc + n = f) : sx_Ev S k pc ls (.int y :: .int x :: .ref a :: r) h = (sx_wr h a x y).bind fun h' => sx_Ev S k f ls r h' := by
  subst hf; rw [sx_Ev_K hc]; simp only [sx_step, sx_wr]
  rcases sx_get h a with _ | (xs | ⟨t, rs⟩ | o) <;> first | rfl | (dsimp only; split <;> rfl)
theorem sx_e_alen (hc : sx_code k pc = some (.arraylength, n)) (hf : pc + n = f) : sx_Ev S k pc ls (.ref a :: r) h = (sx_ints S h a).bind fun xs => sx_Ev S k f ls (.int (Int32.ofNat xs.length) :: r) h := by
  subst hf; rw [sx_Ev_K hc]; simp only [sx_step]
  cases sx_ints S h a <;> rfl
theorem sx_e_aald (hc : sx_code k pc = some (.aaload, n)) (hf : pc + n = f) : sx_Ev S k pc ls (.int x :: .ref a :: r) h = (sx_rdA h a x).bind fun o => sx_Ev S k f ls (sx_rf o :: r) h := by
  subst hf; rw [sx_Ev_K hc]; simp only [sx_step, sx_rdA]
  rcases sx_get h a with _ | (xs | ⟨t, rs⟩ | o) <;> first | rfl | (dsimp only; split <;> rfl)
theorem sx_e_aast {w : Nat} (hc : sx_code k pc = some (.aastore, n)) (hf : pc + n = f) : sx_Ev S k pc ls (.ref w :: .int x :: .ref a :: r) h = (sx_wrA h a x w).bind fun h' => sx_Ev S k f ls r h' := by
  subst hf; rw [sx_Ev_K hc]; simp only [sx_step, sx_wrA]
  rcases sx_get h a with _ | (xs | ⟨t, rs⟩ | o)
  · rfl
  · rfl
  · dsimp only
    by_cases e : t = 0 ∧ Option.map (fun o => o.fst) (sx_obj h w) = some 0
    · rw [if_pos e, if_pos e]
      split <;> rfl
    · rw [if_neg e, if_neg e]
      rfl
  · rfl
theorem sx_e_newa (hc : sx_code k pc = some (.newarray .int, n)) (hf : pc + n = f) : sx_Ev S k pc ls (.int x :: r) h = if x < 0 ∨ 65536 < x.toNatClampNeg then none else sx_Ev S k f ls (.ref (sx_new h) :: r) (sx_push h (some (.inl (List.replicate x.toNatClampNeg 0))) x.toNatClampNeg) := by
  subst hf; rw [sx_Ev_K hc]; simp only [sx_step, sx_i1]; split <;> rfl
theorem sx_e_anew (hc : sx_code k pc = some (.anewarray idx, n)) (hp : sx_pool (sx_own k) (idx + 100000) = some (12, tg, ci, z)) (ht : tg < 2) (hf : pc + n = f) : sx_Ev S k pc ls (.int x :: r) h = if x < 0 ∨ 65536 < x.toNatClampNeg then none else sx_Ev S k f ls (.ref (sx_new h) :: r) (sx_push h (some (.inr (.inl (tg, List.replicate x.toNatClampNeg none)))) x.toNatClampNeg) := by
  subst hf; rw [sx_Ev_K hc]; simp only [sx_step, sx_i1, hp]
  by_cases e : x < 0 ∨ 65536 < x.toNatClampNeg
  · rw [if_pos e, if_pos (e.elim Or.inl fun q => Or.inr (Or.inr q))]; rfl
  · rw [if_neg e, if_neg (fun q => q.elim (fun q => e (Or.inl q)) fun q => q.elim (fun q => absurd ht (Nat.not_lt.mpr q)) fun q => e (Or.inr q))]; rfl
theorem sx_e_virt {j : Nat} {st as : List Value} (hc : sx_code k pc = some (.invokevirtual idx, n)) (hp : sx_pool (sx_own k) idx = some (4, j, fi, z)) (hst : sx_np j ≤ st.length ∧ st.length ≤ sx_np j + 8 ∧ (st.drop (sx_np j)).all sx_cat = true) (hr : st.drop (sx_np j) = r) (ha : (st.take (sx_np j)).reverse = .ref a :: as) (hj : sx_cx (sx_own j) = ci) (hv : sx_klass h a = some ci) : sx_Ev S k pc ls st h = sx_back S k pc ls r (sx_Cl S j (.ref a :: as) h) := by
  subst hr
  rw [sx_Ev_K hc]
  have e1 : ∃ fs, sx_obj h a = some (ci, fs) := by
    unfold sx_klass at hv
    cases e : sx_obj h a with
    | none => rw [e] at hv; cases hv
    | some o => rw [e] at hv; cases hv; exact ⟨o.2, rfl⟩
  obtain ⟨fs, e1⟩ := e1
  simp only [sx_step, sx_callV, hp, if_pos hst, ha, e1, if_pos hj]
  rfl
theorem sx_e_chr (hc : sx_code k pc = some (.invokevirtual idx, n)) (hp : sx_pool (sx_own k) idx = some (10, tg, fi, z)) (hr : r.length ≤ 8 ∧ r.all sx_cat = true) (hf : pc + 3 = f) : sx_Ev S k pc ls (.int x :: .ref 1 :: r) h = if x < 0 ∨ 3 ≤ x.toNatClampNeg then none else sx_Ev S k f ls (.int ([108, 112, 98].getD x.toNatClampNeg 0) :: r) h := by
  subst hf; rw [sx_Ev_K hc]; simp only [sx_step, sx_callV, hp, if_pos hr]; split <;> rfl
end SXE
/-- small numbers -/
def sz (z : Int) : Int32 := Int32.ofInt z
section SXE2
variable {S : List Int32} {k pc n f : Nat} {ls : sx_L} {st : List Value} {h : sx_H}
theorem sx_e_bi {d : Int} {v : Int32} (hc : sx_code k pc = some (.bipush d, n)) (hv : (Int8.ofInt d).toInt32 = v) (hf : pc + n = f) : sx_Ev S k pc ls st h = sx_Ev S k f ls (.int v :: st) h := by
  subst hf; subst hv; exact sx_e_nx hc rfl
theorem sx_e_si {d : Int} {v : Int32} (hc : sx_code k pc = some (.sipush d, n)) (hv : (Int16.ofInt d).toInt32 = v) (hf : pc + n = f) : sx_Ev S k pc ls st h = sx_Ev S k f ls (.int v :: st) h := by
  subst hf; subst hv; exact sx_e_nx hc rfl
theorem sx_e_ldc {idx : Nat} {v w : Int32} (hc : sx_code k pc = some (.ldc idx, n)) (hv : sx_cst (sx_own k) idx = some v) (hw : v = w) (hf : pc + n = f) : sx_Ev S k pc ls st h = sx_Ev S k f ls (.int w :: st) h := by
  subst hf; subst hw
  refine sx_e_nx hc ?_
  simp only [sx_step, hv]
theorem sx_e_ret {ty : FieldType} {v : Int32} (hc : sx_code k pc = some (.ireturn, n)) (hr : sx_rt k = some ty) (hn : narrow ty (.int v) = .int v) : sx_Ev S k pc ls [.int v] h = some (.inl (some (.int v)), h) := by
  refine sx_e_dn hc ?_
  simp only [sx_step, hr, if_pos hn]
end SXE2
