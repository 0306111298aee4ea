/-! ONE STEP of the shadow machine is a step of the real one -/
def sx_lv (g : Nat → Nat) : Nat → sx_L → List (Nat × Value)
  | _, [] => []
  | i, none :: l => sx_lv g (i + 1) l
  | i, some v :: l => (i, sx_cv g v) :: sx_lv g (i + 1) l
theorem sx_lv_mem {g : Nat → Nat} {q : Nat × Value} : ∀ {l : sx_L} {i : Nat}, q ∈ sx_lv g i l → ∃ (j : Nat) (v : Value), q.1 = i + j ∧ l[j]? = some (some v) ∧ q.2 = sx_cv g v
  | [], _, h => by cases h
  | none :: l, i, h => by
    obtain ⟨j, v, h1, h2, h3⟩ := sx_lv_mem (l := l) (i := i + 1) h
    exact ⟨j + 1, v, by omega, by simpa using h2, h3⟩
  | some w :: l, i, h => by
    rcases List.mem_cons.mp h with rfl | h
    · exact ⟨0, w, rfl, rfl, rfl⟩
    · obtain ⟨j, v, h1, h2, h3⟩ := sx_lv_mem (l := l) (i := i + 1) h
      exact ⟨j + 1, v, by omega, by simpa using h2, h3⟩
theorem sx_lv_in {g : Nat → Nat} {v : Value} : ∀ {l : sx_L} {i j : Nat}, l[j]? = some (some v) → (i + j, sx_cv g v) ∈ sx_lv g i l
  | [], _, _, h => by simp at h
  | none :: l, i, 0, h => by simp at h
  | none :: l, i, j + 1, h => by
    have := sx_lv_in (g := g) (l := l) (i := i + 1) (j := j) (by simpa using h)
    rw [show i + (j + 1) = i + 1 + j by omega]
    exact this
  | some w :: l, i, 0, h => by
    simp at h
    subst h
    exact List.mem_cons_self
  | some w :: l, i, j + 1, h => by
    have := sx_lv_in (g := g) (l := l) (i := i + 1) (j := j) (by simpa using h)
    rw [show i + (j + 1) = i + 1 + j by omega]
    exact List.mem_cons_of_mem _ this
theorem sx_cat1 {v : Value} (h : sx_cat v = true) : v.category = 1 := by cases v <;> first | rfl | cases h
theorem sx_cat_cv {g : Nat → Nat} {v : Value} (h : sx_cat v = true) : (sx_cv g v).category = 1 := by cases v <;> first | rfl | cases h
theorem sx_catsum {g : Nat → Nat} : ∀ {l : List Value}, l.all sx_cat = true → ((l.map (sx_cv g)).map fun v => v.category).sum = l.length
  | [], _ => rfl
  | v :: l, h => by
    simp only [List.all_cons, Bool.and_eq_true] at h
    simp only [List.map_cons, List.sum_cons, List.length_cons, sx_cat_cv h.1]
    rw [sx_catsum h.2]
    omega
/-- the locals -/
def sx_LR (g : Nat → Nat) (nL : Nat) (sls : sx_L) (ls : Array Slot) : Prop := sls.length = nL ∧ (∀ (i : Nat) (v : Value), sls[i]? = some (some v) → sx_cat v = true) ∧ lv_has ls nL (sx_lv g 0 sls)
theorem sx_LR.get {g : Nat → Nat} {nL : Nat} {sls : sx_L} {ls : Array Slot} (h : sx_LR g nL sls ls) {i : Nat} {v : Value} (e : sls[i]? = some (some v)) : ls[i]? = some (.val (sx_cv g v)) := by
  have := h.2.2.2.2 _ (sx_lv_in (g := g) (i := 0) e)
  simpa using this
theorem sx_LR.sto {g : Nat → Nat} {nL : Nat} {sls : sx_L} {ls ls' : Array Slot} (h : sx_LR g nL sls ls) {i : Nat} {v : Value} (hv : sx_cat v = true) (h' : lv_has ls' nL ((i, sx_cv g v) :: (sx_lv g 0 sls).filter (fun q => !(q.1 == i) && !(q.1 + 1 == i && q.2.category == 2)))) : sx_LR g nL (sls.set i (some v)) ls' := by
  have hcat : ∀ (j : Nat) (w : Value), (sls.set i (some v))[j]? = some (some w) → sx_cat w = true := by
    intro j w e
    by_cases hij : j = i
    · subst hij
      have hl : j < sls.length := by
        have := (List.getElem?_eq_some_iff.mp e).1
        simpa using this
      rw [List.getElem?_set_self hl] at e
      cases e
      exact hv
    · rw [List.getElem?_set_ne (Ne.symm hij)] at e
      exact h.2.1 j w e
  refine ⟨by rw [List.length_set]; exact h.1, hcat, h'.1, h'.2.1, fun q hq => ?_⟩
  obtain ⟨j, w, h1, h2, h3⟩ := sx_lv_mem hq
  refine h'.2.2 q ?_
  rw [Nat.zero_add] at h1
  by_cases hij : j = i
  · subst hij
    have hl : j < sls.length := by
      have := (List.getElem?_eq_some_iff.mp h2).1
      simpa using this
    rw [List.getElem?_set_self hl] at h2
    cases h2
    obtain ⟨q1, q2⟩ := q
    dsimp only at h1 h3
    rw [h1, h3]
    exact List.mem_cons_self
  · rw [List.getElem?_set_ne (Ne.symm hij)] at h2
    refine List.mem_cons_of_mem _ (List.mem_filter.mpr ⟨?_, ?_⟩)
    · have := sx_lv_in (g := g) (i := 0) h2
      obtain ⟨q1, q2⟩ := q
      dsimp only at h1 h3
      rw [h1, h3]
      simpa using this
    · have c1 : q.2.category = 1 := by rw [h3]; exact sx_cat_cv (h.2.1 j w h2)
      simp [h1, hij, c1]
theorem sx_LR.forget {g : Nat → Nat} {nL : Nat} {sls : sx_L} {ls ls' : Array Slot} (h : sx_LR g nL sls ls) {i : Nat} {w : Value} (h' : lv_has ls' nL ((i, w) :: (sx_lv g 0 sls).filter (fun q => !(q.1 == i) && !(q.1 + 1 == i && q.2.category == 2)))) : sx_LR g nL (sls.set i none) ls' := by
  have hne : ∀ (j : Nat) (w : Value), (sls.set i none)[j]? = some (some w) → j ≠ i ∧ sls[j]? = some (some w) := by
    intro j w e
    by_cases hij : j = i
    · subst hij
      have hl : j < sls.length := by
        have := (List.getElem?_eq_some_iff.mp e).1
        simpa using this
      rw [List.getElem?_set_self hl] at e
      cases e
    · rw [List.getElem?_set_ne (Ne.symm hij)] at e
      exact ⟨hij, e⟩
  refine ⟨by rw [List.length_set]; exact h.1, fun j w e => h.2.1 j w (hne j w e).2, h'.1, h'.2.1, fun q hq => ?_⟩
  obtain ⟨j, v, h1, h2, h3⟩ := sx_lv_mem hq
  refine h'.2.2 q ?_
  rw [Nat.zero_add] at h1
  obtain ⟨hij, h2⟩ := hne j v h2
  refine List.mem_cons_of_mem _ (List.mem_filter.mpr ⟨?_, ?_⟩)
  · have := sx_lv_in (g := g) (i := 0) h2
    obtain ⟨q1, q2⟩ := q
    dsimp only at h1 h3
    rw [h1, h3]
    simpa using this
  · have c1 : q.2.category = 1 := by rw [h3]; exact sx_cat_cv (h.2.1 j v h2)
    simp [h1, hij, c1]
/-- what holds all through an activation of method k -/
def sx_Ctx (p : Program) (l : Launch) (R : Room) (s : State) (m : MethodId) (args : Array Value) (meth : Method) (c : Code) (k : Nat) (D : va_G) (cA : Nat → ClassId) (b sa sv base : Nat) (S : List Int32) : Prop :=
  p.tables.exec = Jvm.exec ∧ c.code = sx_b k ∧ meth.sig.returnType = sx_rt k ∧ meth.locks = false ∧ c.maxLocals = sx_ml k ∧ s.vm.findClass (sx_cn (sx_own k)) = some m.cls ∧ (sx_isI k = true → meth.name = "<init>") ∧ c.exceptionTable.toList = tableOf (sx_hh k) ∧
  (∀ w ∈ sx_W, w.before args s = true) ∧ sx_Env D cA b sa sv base S s ∧ sx_fr k ≤ R.frames ∧ sx_lo k ≤ R.locals ∧ l.stackTraces = false
theorem sx_nx_inj {pc pc1 : Nat} {ls ls1 : sx_L} {st st1 : List Value} {h h1 : sx_H} (e : sx_nx pc ls st h = some (.inl ((pc1, ls1, st1), h1))) : pc1 = pc ∧ ls1 = ls ∧ st1 = st ∧ h1 = h := by
  unfold sx_nx at e
  injection e with e
  injection e with e
  injection e with e1 e2
  injection e1 with e3 e4
  injection e4 with e5 e6
  exact ⟨e3.symm, e5.symm, e6.symm, e2.symm⟩
section SXT
variable {p : Program} {l : Launch} {e : Env} {R : Room} {s : State} {m : MethodId} {args : Array Value} {below : List Frame} {meth : Method} {c : Code} {Q : State → Prop} {k : Nat} {D : va_G} {cA : Nat → ClassId} {b sa sv base : Nat} {S : List Int32}
/-- where the machine stands: the goal at a shadow frame -/
def sx_At (p : Program) (l : Launch) (e : Env) (R : Room) (s : State) (m : MethodId) (args : Array Value) (below : List Frame) (meth : Method) (c : Code) (Q : State → Prop) (k : Nat) (D : va_G) (cA : Nat → ClassId) (b sa base : Nat) (cells slots : Nat) (pc : Nat) (sls : sx_L) (st : List Value) (h : sx_H) : Prop :=
  ∀ (H : Heap) (locs : List Loc) (ls : Array Slot), sx_LR (sx_ad b sa base) (sx_ml k) sls ls → sx_Rep D (sx_ad b sa base) cA base h H → va_S (sx_A base) s.heap H locs →
    W p l e R s m args below meth c H locs cells slots Q (F0 m pc ls (st.map (sx_cv (sx_ad b sa base))))
theorem sx_i1_inl {st : List Value} {K : Int32 → List Value → Option sx_O} {o : sx_O} (e : sx_i1 st K = some o) : ∃ x r, st = .int x :: r ∧ K x r = some o := by
  unfold sx_i1 at e
  split at e
  · exact ⟨_, _, rfl, e⟩
  · cases e
theorem sx_i2_inl {st : List Value} {K : Int32 → Int32 → List Value → Option sx_O} {o : sx_O} (e : sx_i2 st K = some o) : ∃ x y r, st = .int y :: .int x :: r ∧ K x y r = some o := by
  unfold sx_i2 at e
  split at e
  · exact ⟨_, _, _, rfl, e⟩
  · cases e
theorem sx_jump_inl {pc : Nat} {off : Int} {K : Nat → Option sx_O} {o : sx_O} (e : sx_jump pc off K = some o) : ∃ t : Nat, (pc : Int) + off = (t : Int) ∧ K t = some o := by
  unfold sx_jump at e
  split at e
  · rename_i hh
    exact ⟨_, (Int.toNat_of_nonneg hh).symm, e⟩
  · cases e
theorem sx_br_inl {P : Prop} [Decidable P] {pc pc1 : Nat} {off : Int} {ls ls1 : sx_L} {r st1 : List Value} {h h1 : sx_H} (e : sx_br P pc off ls r h = some (.inl ((pc1, ls1, st1), h1))) :
    ∃ t : Nat, (pc : Int) + off = (t : Int) ∧ ls1 = ls ∧ st1 = r ∧ h1 = h ∧ ((P ∧ pc1 = t) ∨ (¬ P ∧ pc1 = pc + 3)) := by
  obtain ⟨t, ht, e⟩ := sx_jump_inl e
  by_cases hP : P
  · rw [if_pos hP] at e
    obtain ⟨e1, e2, e3, e4⟩ := sx_nx_inj e
    exact ⟨t, ht, e2, e3, e4, Or.inl ⟨hP, e1⟩⟩
  · rw [if_neg hP] at e
    obtain ⟨e1, e2, e3, e4⟩ := sx_nx_inj e
    exact ⟨t, ht, e2, e3, e4, Or.inr ⟨hP, e1⟩⟩
set_option maxHeartbeats 8000000 in
set_option maxRecDepth 100000 in
theorem sx_next (C : sx_Ctx p l R s m args meth c k D cA b sa sv base S)
    (hch : ∀ (pc : Nat) (sls : sx_L) (r : List Value) (h : sx_H) (idx : Nat) (x : Int32) (cells slots : Nat) (z : Nat × Nat × Nat), sx_code k pc = some (.invokevirtual idx, 3) → sx_pool (sx_own k) idx = some (10, z) → ¬ (x < 0 ∨ 3 ≤ x.toNatClampNeg) → r.length ≤ 8 → r.all sx_cat = true →
      sx_At p l e R s m args below meth c Q k D cA b sa base cells slots (pc + 3) sls (.int ([108, 112, 98].getD x.toNatClampNeg 0) :: r) h → cells ≤ R.cells → slots ≤ R.slots → sx_At p l e R s m args below meth c Q k D cA b sa base cells slots pc sls (.int x :: .ref 1 :: r) h)
    {pc pc1 len cells slots : Nat} {i : Instr} {sls sls1 : sx_L} {st st1 : List Value} {h h1 : sx_H} (hc : sx_code k pc = some (i, len)) (hs : sx_step S k i len pc sls st h = some (.inl ((pc1, sls1, st1), h1)))
    (hcl : cells + (h1.1.length - h.1.length) ≤ R.cells) (hsl : slots + (h1.2 - h.2) ≤ R.slots)
    (kk : sx_At p l e R s m args below meth c Q k D cA b sa base (cells + (h1.1.length - h.1.length)) (slots + (h1.2 - h.2)) pc1 sls1 st1 h1) : sx_At p l e R s m args below meth c Q k D cA b sa base cells slots pc sls st h := by
  intro H locs ls hL hR hS
  have hd := sx_decl hc
  have hlen := sx_len hc
  obtain ⟨hx, hb, hrt, hlk, hml, hown, hini, htab, hts, hE, hfr, hlo, htr⟩ := id C
  obtain ⟨hK, ⟨hX, hbb, hbs⟩, hNB, ⟨hO0, hO1⟩, ⟨hstr, hlpb⟩, hrest⟩ := id hE
  have hbA : ¬ sx_A base b := Nat.not_le.mpr hbb
  have hbl : b < s.heap.size := Nat.lt_of_lt_of_le hbb hbs
  have stay : h1 = h → sx_At p l e R s m args below meth c Q k D cA b sa base cells slots pc1 sls1 st1 h := by
    intro q
    subst q
    rw [Nat.sub_self, Nat.add_zero, Nat.sub_self, Nat.add_zero] at kk
    exact kk
  cases i
  case iload j =>
    dsimp only [sx_step] at hs
    split at hs
    · rename_i x hx1
      obtain ⟨rfl, rfl, rfl, rfl⟩ := sx_nx_inj hs
      subst hlen
      exact lv_iload hx hb hd (hL.get hx1) (stay rfl H locs ls hL hR hS)
    · cases hs
  case iload_n j =>
    dsimp only [sx_step] at hs
    split at hs
    · rename_i x hx1
      obtain ⟨rfl, rfl, rfl, rfl⟩ := sx_nx_inj hs
      subst hlen
      exact lv_iload_n hx hb hd rfl (hL.get hx1) (stay rfl H locs ls hL hR hS)
    · cases hs
  case aload j =>
    dsimp only [sx_step] at hs
    split at hs
    · rename_i x hx1
      obtain ⟨rfl, rfl, rfl, rfl⟩ := sx_nx_inj hs
      subst hlen
      exact lv_aload hx hb hd (hL.get hx1) (stay rfl H locs ls hL hR hS)
    · rename_i hx1
      obtain ⟨rfl, rfl, rfl, rfl⟩ := sx_nx_inj hs
      subst hlen
      exact lv_aloadN hx hb hd (hL.get hx1) (stay rfl H locs ls hL hR hS)
    · cases hs
  case aload_n j =>
    dsimp only [sx_step] at hs
    split at hs
    · rename_i x hx1
      obtain ⟨rfl, rfl, rfl, rfl⟩ := sx_nx_inj hs
      subst hlen
      exact lv_aload_n hx hb hd rfl (hL.get hx1) (stay rfl H locs ls hL hR hS)
    · rename_i hx1
      obtain ⟨rfl, rfl, rfl, rfl⟩ := sx_nx_inj hs
      subst hlen
      exact lv_aload_nN hx hb hd rfl (hL.get hx1) (stay rfl H locs ls hL hR hS)
    · cases hs
  case istore j =>
    dsimp only [sx_step] at hs
    split at hs
    · split at hs
      · rename_i x r hj
        obtain ⟨rfl, rfl, rfl, rfl⟩ := sx_nx_inj hs
        subst hlen
        exact lv_istore hx hb hd hL.2.2 (by rw [← hL.1]; exact hj) rfl (fun ls' hl' => stay rfl H locs ls' (hL.sto rfl hl') hR hS)
      · cases hs
    · cases hs
  case istore_n j =>
    dsimp only [sx_step] at hs
    split at hs
    · split at hs
      · rename_i x r hj
        obtain ⟨rfl, rfl, rfl, rfl⟩ := sx_nx_inj hs
        subst hlen
        exact lv_istore_n hx hb hd rfl hL.2.2 (by rw [← hL.1]; exact hj) rfl (fun ls' hl' => stay rfl H locs ls' (hL.sto rfl hl') hR hS)
      · cases hs
    · cases hs
  case astore j =>
    dsimp only [sx_step] at hs
    split at hs
    · split at hs
      · rename_i x r hj
        obtain ⟨rfl, rfl, rfl, rfl⟩ := sx_nx_inj hs
        subst hlen
        exact lv_astore hx hb hd hL.2.2 (by rw [← hL.1]; exact hj) rfl (fun ls' hl' => stay rfl H locs ls' (hL.sto (v := .ref x) rfl hl') hR hS)
      · cases hs
    · split at hs
      · rename_i r hj
        obtain ⟨rfl, rfl, rfl, rfl⟩ := sx_nx_inj hs
        subst hlen
        exact lv_astoreN hx hb hd hL.2.2 (by rw [← hL.1]; exact hj) rfl (fun ls' hl' => stay rfl H locs ls' (hL.sto (v := .null) rfl hl') hR hS)
      · cases hs
    · cases hs
  case astore_n j =>
    dsimp only [sx_step] at hs
    split at hs
    · split at hs
      · rename_i x r hj
        obtain ⟨rfl, rfl, rfl, rfl⟩ := sx_nx_inj hs
        subst hlen
        exact lv_astore_n hx hb hd rfl hL.2.2 (by rw [← hL.1]; exact hj) rfl (fun ls' hl' => stay rfl H locs ls' (hL.sto (v := .ref x) rfl hl') hR hS)
      · cases hs
    · split at hs
      · rename_i r hj
        obtain ⟨rfl, rfl, rfl, rfl⟩ := sx_nx_inj hs
        subst hlen
        exact lv_astore_nN hx hb hd rfl hL.2.2 (by rw [← hL.1]; exact hj) rfl (fun ls' hl' => stay rfl H locs ls' (hL.sto (v := .null) rfl hl') hR hS)
      · cases hs
    · cases hs
  case iinc j d =>
    dsimp only [sx_step] at hs
    split at hs
    · rename_i x hx1
      obtain ⟨rfl, rfl, rfl, rfl⟩ := sx_nx_inj hs
      subst hlen
      have hmem := sx_lv_in (g := sx_ad b sa base) (i := 0) hx1
      rw [Nat.zero_add] at hmem
      obtain ⟨q, hq⟩ := List.getElem?_of_mem hmem
      exact lv_iinc hx hb hd hL.2.2 hq rfl (by rw [← hL.1]; exact (List.getElem?_eq_some_iff.mp hx1).1) rfl (fun ls' hl' => stay rfl H locs ls' (hL.sto (v := .int (x + Int32.ofInt d)) rfl hl') hR hS)
    · cases hs
  case iconst d =>
    obtain ⟨rfl, rfl, rfl, rfl⟩ := sx_nx_inj hs
    subst hlen
    exact lv_iconst hx hb hd rfl (stay rfl H locs ls hL hR hS)
  case bipush d =>
    obtain ⟨rfl, rfl, rfl, rfl⟩ := sx_nx_inj hs
    subst hlen
    exact lv_bipush hx hb hd rfl (stay rfl H locs ls hL hR hS)
  case sipush d =>
    obtain ⟨rfl, rfl, rfl, rfl⟩ := sx_nx_inj hs
    subst hlen
    exact lv_sipush hx hb hd rfl (stay rfl H locs ls hL hR hS)
  case aconst_null =>
    obtain ⟨rfl, rfl, rfl, rfl⟩ := sx_nx_inj hs
    subst hlen
    exact lv_null hx hb hd (stay rfl H locs ls hL hR hS)
  case iadd =>
    obtain ⟨x, y, r, rfl, hs⟩ := sx_i2_inl hs
    obtain ⟨rfl, rfl, rfl, rfl⟩ := sx_nx_inj hs
    subst hlen
    exact lv_iadd hx hb hd (stay rfl H locs ls hL hR hS)
  case isub =>
    obtain ⟨x, y, r, rfl, hs⟩ := sx_i2_inl hs
    obtain ⟨rfl, rfl, rfl, rfl⟩ := sx_nx_inj hs
    subst hlen
    exact lv_isub hx hb hd (stay rfl H locs ls hL hR hS)
  case imul =>
    obtain ⟨x, y, r, rfl, hs⟩ := sx_i2_inl hs
    obtain ⟨rfl, rfl, rfl, rfl⟩ := sx_nx_inj hs
    subst hlen
    exact lv_imul hx hb hd (stay rfl H locs ls hL hR hS)
  case iand =>
    obtain ⟨x, y, r, rfl, hs⟩ := sx_i2_inl hs
    obtain ⟨rfl, rfl, rfl, rfl⟩ := sx_nx_inj hs
    subst hlen
    exact lv_iand hx hb hd (stay rfl H locs ls hL hR hS)
  case ior =>
    obtain ⟨x, y, r, rfl, hs⟩ := sx_i2_inl hs
    obtain ⟨rfl, rfl, rfl, rfl⟩ := sx_nx_inj hs
    subst hlen
    exact lv_ior hx hb hd (stay rfl H locs ls hL hR hS)
  case ixor =>
    obtain ⟨x, y, r, rfl, hs⟩ := sx_i2_inl hs
    obtain ⟨rfl, rfl, rfl, rfl⟩ := sx_nx_inj hs
    subst hlen
    exact lv_ixor hx hb hd (stay rfl H locs ls hL hR hS)
  case iushr =>
    obtain ⟨x, y, r, rfl, hs⟩ := sx_i2_inl hs
    obtain ⟨rfl, rfl, rfl, rfl⟩ := sx_nx_inj hs
    subst hlen
    exact lv_iushr hx hb hd rfl (stay rfl H locs ls hL hR hS)
  case idiv =>
    have hs9 := sx_i2_inl hs
    clear hs
    obtain ⟨x, y, r, rfl, hs⟩ := hs9
    split at hs
    · cases hs
    · rename_i hy
      obtain ⟨rfl, rfl, rfl, rfl⟩ := sx_nx_inj hs
      subst hlen
      exact lv_idiv hx hb hd hy (stay rfl H locs ls hL hR hS)
  case irem =>
    have hs9 := sx_i2_inl hs
    clear hs
    obtain ⟨x, y, r, rfl, hs⟩ := hs9
    split at hs
    · cases hs
    · rename_i hy
      obtain ⟨rfl, rfl, rfl, rfl⟩ := sx_nx_inj hs
      subst hlen
      exact lv_irem hx hb hd hy (stay rfl H locs ls hL hR hS)
  case dup =>
    dsimp only [sx_step] at hs
    split at hs
    · split at hs
      · rename_i v r hv
        obtain ⟨rfl, rfl, rfl, rfl⟩ := sx_nx_inj hs
        subst hlen
        exact lv_dup hx hb hd (sx_cat_cv hv) (stay rfl H locs ls hL hR hS)
      · cases hs
    · cases hs
  case dup2 =>
    dsimp only [sx_step] at hs
    split at hs
    · split at hs
      · rename_i v w r hv
        obtain ⟨rfl, rfl, rfl, rfl⟩ := sx_nx_inj hs
        subst hlen
        exact lv_dup2_11 hx hb hd (sx_cat_cv hv.1) (sx_cat_cv hv.2) (stay rfl H locs ls hL hR hS)
      · cases hs
    · cases hs
  case goto off =>
    dsimp only [sx_step] at hs
    have hs9 := sx_jump_inl hs
    clear hs
    obtain ⟨t, ht, hs⟩ := hs9
    obtain ⟨rfl, rfl, rfl, rfl⟩ := sx_nx_inj hs
    exact lv_goto hx hb hd ht (stay rfl H locs ls hL hR hS)
  case ifCond cd off =>
    cases cd
    · obtain ⟨x, r, rfl, hs⟩ := sx_i1_inl hs
      obtain ⟨t, ht, rfl, rfl, rfl, ⟨hP, rfl⟩ | ⟨hP, rfl⟩⟩ := sx_br_inl hs
      · exact lv_if_eq hx hb hd ht (fun _ => stay rfl H locs ls hL hR hS) (fun q => absurd hP q)
      · exact lv_if_eq hx hb hd ht (fun q => absurd q hP) (fun _ => stay rfl H locs ls hL hR hS)
    · obtain ⟨x, r, rfl, hs⟩ := sx_i1_inl hs
      obtain ⟨t, ht, rfl, rfl, rfl, ⟨hP, rfl⟩ | ⟨hP, rfl⟩⟩ := sx_br_inl hs
      · exact lv_if_ne hx hb hd ht (fun _ => stay rfl H locs ls hL hR hS) (fun q => absurd q hP)
      · exact lv_if_ne hx hb hd ht (fun q => absurd q hP) (fun _ => stay rfl H locs ls hL hR hS)
    · obtain ⟨x, r, rfl, hs⟩ := sx_i1_inl hs
      obtain ⟨t, ht, rfl, rfl, rfl, ⟨hP, rfl⟩ | ⟨hP, rfl⟩⟩ := sx_br_inl hs
      · exact lv_if_lt hx hb hd ht (fun _ => stay rfl H locs ls hL hR hS) (fun q => absurd hP q)
      · exact lv_if_lt hx hb hd ht (fun q => absurd q hP) (fun _ => stay rfl H locs ls hL hR hS)
    · obtain ⟨x, r, rfl, hs⟩ := sx_i1_inl hs
      obtain ⟨t, ht, rfl, rfl, rfl, ⟨hP, rfl⟩ | ⟨hP, rfl⟩⟩ := sx_br_inl hs
      · exact lv_if_ge hx hb hd ht (fun _ => stay rfl H locs ls hL hR hS) (fun q => absurd hP q)
      · exact lv_if_ge hx hb hd ht (fun q => absurd q hP) (fun _ => stay rfl H locs ls hL hR hS)
    · obtain ⟨x, r, rfl, hs⟩ := sx_i1_inl hs
      obtain ⟨t, ht, rfl, rfl, rfl, ⟨hP, rfl⟩ | ⟨hP, rfl⟩⟩ := sx_br_inl hs
      · exact lv_if_gt hx hb hd ht (fun _ => stay rfl H locs ls hL hR hS) (fun q => absurd hP q)
      · exact lv_if_gt hx hb hd ht (fun q => absurd q hP) (fun _ => stay rfl H locs ls hL hR hS)
    · obtain ⟨x, r, rfl, hs⟩ := sx_i1_inl hs
      obtain ⟨t, ht, rfl, rfl, rfl, ⟨hP, rfl⟩ | ⟨hP, rfl⟩⟩ := sx_br_inl hs
      · exact lv_if_le hx hb hd ht (fun _ => stay rfl H locs ls hL hR hS) (fun q => absurd hP q)
      · exact lv_if_le hx hb hd ht (fun q => absurd q hP) (fun _ => stay rfl H locs ls hL hR hS)
  case if_icmp cd off =>
    cases cd
    · obtain ⟨x, y, r, rfl, hs⟩ := sx_i2_inl hs
      obtain ⟨t, ht, rfl, rfl, rfl, ⟨hP, rfl⟩ | ⟨hP, rfl⟩⟩ := sx_br_inl hs
      · exact lv_icmp_eq hx hb hd ht (fun _ => stay rfl H locs ls hL hR hS) (fun q => absurd hP q)
      · exact lv_icmp_eq hx hb hd ht (fun q => absurd q hP) (fun _ => stay rfl H locs ls hL hR hS)
    · obtain ⟨x, y, r, rfl, hs⟩ := sx_i2_inl hs
      obtain ⟨t, ht, rfl, rfl, rfl, ⟨hP, rfl⟩ | ⟨hP, rfl⟩⟩ := sx_br_inl hs
      · exact lv_icmp_ne hx hb hd ht (fun _ => stay rfl H locs ls hL hR hS) (fun q => absurd q hP)
      · exact lv_icmp_ne hx hb hd ht (fun q => absurd q hP) (fun _ => stay rfl H locs ls hL hR hS)
    · obtain ⟨x, y, r, rfl, hs⟩ := sx_i2_inl hs
      obtain ⟨t, ht, rfl, rfl, rfl, ⟨hP, rfl⟩ | ⟨hP, rfl⟩⟩ := sx_br_inl hs
      · exact lv_icmp_lt hx hb hd ht (fun _ => stay rfl H locs ls hL hR hS) (fun q => absurd hP q)
      · exact lv_icmp_lt hx hb hd ht (fun q => absurd q hP) (fun _ => stay rfl H locs ls hL hR hS)
    · obtain ⟨x, y, r, rfl, hs⟩ := sx_i2_inl hs
      obtain ⟨t, ht, rfl, rfl, rfl, ⟨hP, rfl⟩ | ⟨hP, rfl⟩⟩ := sx_br_inl hs
      · exact lv_icmp_ge hx hb hd ht (fun _ => stay rfl H locs ls hL hR hS) (fun q => absurd hP q)
      · exact lv_icmp_ge hx hb hd ht (fun q => absurd q hP) (fun _ => stay rfl H locs ls hL hR hS)
    · obtain ⟨x, y, r, rfl, hs⟩ := sx_i2_inl hs
      obtain ⟨t, ht, rfl, rfl, rfl, ⟨hP, rfl⟩ | ⟨hP, rfl⟩⟩ := sx_br_inl hs
      · exact lv_icmp_gt hx hb hd ht (fun _ => stay rfl H locs ls hL hR hS) (fun q => absurd hP q)
      · exact lv_icmp_gt hx hb hd ht (fun q => absurd q hP) (fun _ => stay rfl H locs ls hL hR hS)
    · obtain ⟨x, y, r, rfl, hs⟩ := sx_i2_inl hs
      obtain ⟨t, ht, rfl, rfl, rfl, ⟨hP, rfl⟩ | ⟨hP, rfl⟩⟩ := sx_br_inl hs
      · exact lv_icmp_le hx hb hd ht (fun _ => stay rfl H locs ls hL hR hS) (fun q => absurd hP q)
      · exact lv_icmp_le hx hb hd ht (fun q => absurd q hP) (fun _ => stay rfl H locs ls hL hR hS)
  case ifnonnull off =>
    dsimp only [sx_step] at hs
    split at hs
    · obtain ⟨t, ht, hs⟩ := sx_jump_inl hs
      obtain ⟨rfl, rfl, rfl, rfl⟩ := sx_nx_inj hs
      exact lv_ifnonnull hx hb hd ht (stay rfl H locs ls hL hR hS)
    · obtain ⟨rfl, rfl, rfl, rfl⟩ := sx_nx_inj hs
      exact lv_ifnonnullN hx hb hd (stay rfl H locs ls hL hR hS)
    · cases hs
  case ldc idx =>
    dsimp only [sx_step] at hs
    split at hs
    · rename_i v hv
      obtain ⟨rfl, rfl, rfl, rfl⟩ := sx_nx_inj hs
      subst hlen
      exact lv_ldc hx hb hown (hts _ (sx_cst_ok hv)) hd (stay rfl H locs ls hL hR hS)
    · split at hs
      · rename_i hp
        obtain ⟨rfl, rfl, rfl, rfl⟩ := sx_nx_inj hs
        subst hlen
        have h9 := sx_pool_ok hp
        simp only [sx_okP, Bool.and_eq_true, decide_eq_true_eq] at h9
        obtain ⟨o1, o2⟩ := h9
        subst o2
        refine va_ldcS hx hb (own := RL) (by rw [o1] at hown; exact hown) hlpb hd (stay rfl H locs ls hL hR hS)
      · cases hs
  case iaload =>
    dsimp only [sx_step] at hs
    split at hs
    · rename_i x a r
      split at hs
      · rename_i xs hxs
        split at hs
        · cases hs
        · rename_i hin
          obtain ⟨rfl, rfl, rfl, rfl⟩ := sx_nx_inj hs
          subst hlen
          rcases sx_ints_some hxs with ⟨rfl, rfl⟩ | hg
          · exact va_sld hx hb hX hbl hbA hS hin hd (stay rfl H locs ls hL hR hS)
          · exact sx_riald hx hb hK hR hg hin hd (stay rfl H locs ls hL hR hS)
      · cases hs
    · cases hs
  case arraylength =>
    dsimp only [sx_step] at hs
    split at hs
    · rename_i a r
      split at hs
      · rename_i xs hxs
        obtain ⟨rfl, rfl, rfl, rfl⟩ := sx_nx_inj hs
        subst hlen
        rcases sx_ints_some hxs with ⟨rfl, rfl⟩ | hg
        · exact va_slen hx hb hX hbl hbA hS hd (stay rfl H locs ls hL hR hS)
        · exact sx_ralen hx hb hK hR hg hd (stay rfl H locs ls hL hR hS)
      · cases hs
    · cases hs
  case aaload =>
    dsimp only [sx_step] at hs
    split at hs
    · rename_i x a r
      split at hs
      · rename_i t rs hg
        split at hs
        · cases hs
        · rename_i hin
          obtain ⟨rfl, rfl, rfl, rfl⟩ := sx_nx_inj hs
          subst hlen
          exact sx_raald hx hb (t := t) (by omega) hK hR hg (fun q => hin (q.imp id Or.inr)) hd (stay rfl H locs ls hL hR hS)
      · cases hs
    · cases hs
  case iastore =>
    dsimp only [sx_step] at hs
    split at hs
    · rename_i v x a r
      split at hs
      · rename_i xs hg
        split at hs
        · cases hs
        · rename_i hin
          obtain ⟨rfl, rfl, rfl, rfl⟩ := sx_nx_inj hs
          subst hlen
          refine sx_riast hx hb hK hR hS hg hin hd fun H1 locs1 hR1 hS1 => ?_
          have hz : (sx_set h a (.inl (xs.set x.toNatClampNeg v))).1.length = h.1.length := by simp [sx_set]
          rw [hz, Nat.sub_self, Nat.add_zero] at kk
          have hz2 : (sx_set h a (.inl (xs.set x.toNatClampNeg v))).2 - h.2 = 0 := Nat.sub_self _
          rw [hz2, Nat.add_zero] at kk
          exact kk H1 locs1 ls hL hR1 hS1
      · cases hs
    · cases hs
  case aastore =>
    dsimp only [sx_step] at hs
    split at hs
    · rename_i v x a r
      split at hs
      · rename_i t rs hg
        split at hs
        · rename_i ht
          split at hs
          · cases hs
          · rename_i hin
            obtain ⟨rfl, rfl, rfl, rfl⟩ := sx_nx_inj hs
            subst hlen
            obtain ⟨rfl, ho⟩ := ht
            obtain ⟨⟨ci, fs⟩, ho1, ho2⟩ := Option.map_eq_some_iff.mp ho
            dsimp only at ho2
            subst ho2
            refine sx_raast hx hb hK hR hS hg ho1 hin hd fun H1 locs1 hR1 hS1 => ?_
            have hz : (sx_set h a (.inr (.inl (0, rs.set x.toNatClampNeg (some v))))).1.length = h.1.length := by simp [sx_set]
            rw [hz, Nat.sub_self, Nat.add_zero] at kk
            have hz2 : (sx_set h a (.inr (.inl (0, rs.set x.toNatClampNeg (some v))))).2 - h.2 = 0 := Nat.sub_self _
            rw [hz2, Nat.add_zero] at kk
            exact kk H1 locs1 ls hL hR1 hS1
        · cases hs
      · cases hs
    · cases hs
  case getfield idx =>
    dsimp only [sx_step] at hs
    split at hs
    · rename_i a r
      split at hs
      · rename_i t ci f pl hp
        split at hs
        · rename_i ht
          split at hs
          · rename_i cj fs ho
            split at hs
            · rename_i hcj
              split at hs
              · rename_i v hv
                obtain ⟨rfl, rfl, rfl, rfl⟩ := sx_nx_inj hs
                subst hlen
                subst hcj
                have h9 := sx_pool_ok hp
                have t2 : t = 0 ∨ t = 1 := by omega
                rcases t2 with rfl | rfl
                · simp only [sx_okP, Bool.and_eq_true, decide_eq_true_eq] at h9
                  obtain ⟨⟨g1, g2⟩, g3⟩ := h9
                  exact sx_rgetf hx hb hts hown hK hR ho g1 g2 (Or.inl (hts _ (sx_inW g3 rfl))) hv hd (stay rfl H locs ls hL hR hS)
                · simp only [sx_okP, Bool.and_eq_true, decide_eq_true_eq] at h9
                  obtain ⟨⟨g1, g2⟩, g3⟩ := h9
                  exact sx_rgetf hx hb hts hown hK hR ho g1 g2 (Or.inr (va_Nw.use rfl (hNB _ (sx_inNB g3 rfl)))) hv hd (stay rfl H locs ls hL hR hS)
              · cases hs
            · cases hs
          · cases hs
        · cases hs
      · cases hs
    · cases hs
  case putfield idx =>
    dsimp only [sx_step] at hs
    split at hs
    · rename_i v a r
      split at hs
      · rename_i t ci f pl hp
        split at hs
        · rename_i ht
          obtain ⟨ht, hfin, hfit, hnar⟩ := ht
          split at hs
          · rename_i cj fs ho
            split at hs
            · rename_i hcj
              obtain ⟨hcj, hfl⟩ := hcj
              obtain ⟨rfl, rfl, rfl, rfl⟩ := sx_nx_inj hs
              subst hlen
              subst hcj
              have h9 := sx_pool_ok hp
              have hz : (sx_set h a (.inr (.inr (cj, fs.set f v)))).1.length = h.1.length := by simp [sx_set]
              rw [hz, Nat.sub_self, Nat.add_zero] at kk
              have hz2 : (sx_set h a (.inr (.inr (cj, fs.set f v)))).2 - h.2 = 0 := Nat.sub_self _
              rw [hz2, Nat.add_zero] at kk
              have t2 : t = 0 ∨ t = 1 := by omega
              rcases t2 with rfl | rfl
              · simp only [sx_okP, Bool.and_eq_true, decide_eq_true_eq] at h9
                obtain ⟨⟨g1, g2⟩, g3⟩ := h9
                refine sx_rputf hx hb hts hown hK hR hS ho g1 g2 hfl (Or.inl ⟨hts _ (sx_inW g3 rfl), ?_⟩) hfit hnar hd fun H1 locs1 hR1 hS1 => kk H1 locs1 ls hL hR1 hS1
                cases hb9 : (sx_T cj f).2.2.2
                · exact Or.inl rfl
                · rcases hfin with hf | ⟨-, hi1, hi2⟩
                  · rw [hb9] at hf; cases hf
                  · exact Or.inr ⟨rfl, hini hi1, sx_cx_own (by rw [hi2]; exact g1) hi2⟩
              · simp only [sx_okP, Bool.and_eq_true, decide_eq_true_eq] at h9
                obtain ⟨⟨g1, g2⟩, g3⟩ := h9
                refine sx_rputf hx hb hts hown hK hR hS ho g1 g2 hfl (Or.inr ⟨va_Nw.use rfl (hNB _ (sx_inNB g3 rfl)), ?_⟩) hfit hnar hd fun H1 locs1 hR1 hS1 => kk H1 locs1 ls hL hR1 hS1
                rcases hfin with hf | ⟨hf, -⟩
                · exact hf
                · cases hf
            · cases hs
          · cases hs
        · cases hs
      · cases hs
    · cases hs
  case new idx =>
    dsimp only [sx_step] at hs
    split at hs
    · rename_i ci z1 z2 hp
      split at hs
      · rename_i hci
        obtain ⟨rfl, rfl, rfl, rfl⟩ := sx_nx_inj hs
        subst hlen
        have h9 := sx_pool_ok hp
        simp only [sx_okP, Bool.and_eq_true, decide_eq_true_eq] at h9
        obtain ⟨g1, g3⟩ := h9
        have hz : (sx_push h (some (.inr (.inr (ci, sx_df ci)))) (sx_N ci)).1.length - h.1.length = 1 := by simp [sx_push]
        have hz2 : (sx_push h (some (.inr (.inr (ci, sx_df ci)))) (sx_N ci)).2 - h.2 = sx_N ci := by simp [sx_push]
        rw [hz, hz2] at kk
        rw [hz] at hcl
        rw [hz2] at hsl
        exact sx_rnew hx hb hts g1 hown (hts _ (sx_inW g3 rfl)) hK hR hS hcl hsl hd fun H1 hR1 hS1 => kk H1 locs ls hL hR1 hS1
      · cases hs
    · split at hs
      · split at hs
        · cases hs
        · cases hs
      · cases hs
    · cases hs
  case newarray at9 =>
    cases at9
    case int =>
      have hs9 := sx_i1_inl hs
      clear hs
      obtain ⟨x, r, rfl, hs⟩ := hs9
      split at hs
      · cases hs
      · rename_i hn
        obtain ⟨rfl, rfl, rfl, rfl⟩ := sx_nx_inj hs
        subst hlen
        have hz : (sx_push h (some (.inl (List.replicate x.toNatClampNeg 0))) x.toNatClampNeg).1.length - h.1.length = 1 := by simp [sx_push]
        have hz2 : (sx_push h (some (.inl (List.replicate x.toNatClampNeg 0))) x.toNatClampNeg).2 - h.2 = x.toNatClampNeg := by simp [sx_push]
        rw [hz, hz2] at kk
        rw [hz] at hcl
        rw [hz2] at hsl
        exact sx_rnewa hx hb hts hK hR hS (fun q => hn (Or.inl q)) (Nat.not_lt.mp fun q => hn (Or.inr q)) hcl hsl hd fun H1 hR1 hS1 => kk H1 locs ls hL hR1 hS1
    all_goals cases hs
  case anewarray idx =>
    have hs9 := sx_i1_inl hs
    clear hs
    obtain ⟨x, r, rfl, hs⟩ := hs9
    split at hs
    · rename_i t z1 z2 hp
      split at hs
      · cases hs
      · rename_i hn
        obtain ⟨rfl, rfl, rfl, rfl⟩ := sx_nx_inj hs
        subst hlen
        have h9 := sx_pool_ok hp
        simp only [sx_okP, Bool.and_eq_true, decide_eq_true_eq] at h9
        obtain ⟨⟨-, g1⟩, g3⟩ := h9
        rw [Nat.add_sub_cancel] at g3
        have hz : (sx_push h (some (.inr (.inl (t, List.replicate x.toNatClampNeg none)))) x.toNatClampNeg).1.length - h.1.length = 1 := by simp [sx_push]
        have hz2 : (sx_push h (some (.inr (.inl (t, List.replicate x.toNatClampNeg none)))) x.toNatClampNeg).2 - h.2 = x.toNatClampNeg := by simp [sx_push]
        rw [hz, hz2] at kk
        rw [hz] at hcl
        rw [hz2] at hsl
        have hov : va_AO (sx_eo t) s := by
          match t, g1 with
          | 0, _ => exact hO0
          | 1, _ => exact hO1
          | t + 2, q => omega
        exact sx_rnewq hx hb g1 hown (hts _ (sx_inW g3 rfl)) hov hK hR hS (fun q => hn (Or.inl q)) (Nat.not_lt.mp fun q => hn (Or.inr (Or.inr q))) hcl hsl hd fun H1 hR1 hS1 => kk H1 locs ls hL hR1 hS1
    · cases hs
  case invokevirtual idx =>
    dsimp only [sx_step, sx_callV] at hs
    split at hs
    · split at hs
      · split at hs
        · split at hs
          · split at hs
            · cases hs
            · cases hs
          · cases hs
        · cases hs
      · cases hs
    · rename_i z1 z2 z3 hp
      split at hs
      · rename_i x r
        split at hs
        · cases hs
        · rename_i hin
          split at hs
          · rename_i hr
            obtain ⟨rfl, rfl, rfl, rfl⟩ := sx_nx_inj hs
            subst hlen
            exact hch pc sls1 _ h1 idx x cells slots _ hc hp hin hr.1 hr.2 (stay rfl) (by rw [Nat.sub_self] at hcl; exact hcl) (by rw [Nat.sub_self] at hsl; exact hsl) H locs ls hL hR hS
          · cases hs
      · cases hs
    · cases hs
  case invokestatic idx =>
    dsimp only [sx_step, sx_callS] at hs
    split at hs
    · split at hs
      · cases hs
      · cases hs
    · cases hs
  case invokespecial idx =>
    dsimp only [sx_step, sx_callI] at hs
    split at hs
    · rename_i z1 z2 z3 hp
      split at hs
      · rename_i a r
        split at hs
        · rename_i hr
          obtain ⟨rfl, rfl, rfl, rfl⟩ := sx_nx_inj hs
          subst hlen
          have h9 := sx_pool_ok hp
          simp only [sx_okP, decide_eq_true_eq] at h9
          obtain ⟨f1, f2⟩ := sx_objroom hc hp
          refine W.objInit hx hb hown (hts _ (sx_inW h9 rfl)) (hts _ (List.mem_filter.mpr ⟨sx_oi.1, rfl⟩)) (hts _ (List.mem_filter.mpr ⟨sx_oi.2, rfl⟩)) (g := F0 m pc ls (.ref (sx_ad b sa base a) :: st1.map (sx_cv (sx_ad b sa base)))) rfl (by rw [hml]; exact hL.2.2.1) rfl hd (by omega) ?_ (stay rfl H locs ls hL hR hS)
          rw [sx_catsum hr.2]
          show 2 * 0 + st1.length + 12 ≤ R.locals
          have h8 := hr.1
          omega
        · cases hs
      · cases hs
    · split at hs
      · split at hs
        · cases hs
        · cases hs
      · cases hs
    · cases hs
  case ireturn =>
    dsimp only [sx_step] at hs
    split at hs
    · split at hs
      · split at hs
        · cases hs
        · cases hs
      · cases hs
    · cases hs
  case areturn =>
    dsimp only [sx_step] at hs
    split at hs
    · split at hs
      · split at hs
        · cases hs
        · cases hs
      · cases hs
    · cases hs
  case return_ =>
    dsimp only [sx_step] at hs
    split at hs
    · split at hs
      · cases hs
      · cases hs
    · cases hs
  all_goals cases hs
end SXT
