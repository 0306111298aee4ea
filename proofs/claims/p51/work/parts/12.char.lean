/-! String.charAt of the text "lpb": the JDK's five methods -/
def sx_jws : List Cond := [.fieldLink RJ0 38 "java/lang/String" "COMPACT_STRINGS" "Z", .fieldLink RJ0 15 "java/lang/String" "coder" "B", .fieldLink RJ0 9 "java/lang/String" "value" "[B", .methodLink RJ0 492 yJ0_isLatin1_aae02, .instanceMethod yJ0_isLatin1_aae02, .selects RJ0 yJ0_isLatin1_aae02 yJ0_isLatin1_aae02, .initialized RJ0,
  .code yJ0_isLatin1_aae02 cJ0_isLatin1_aae02 1 (some .boolean), .methodLink RJ0 495 yJ1_charAt_3b067, .static yJ1_charAt_3b067, .initialized RJ1, .code yJ1_charAt_3b067 cJ1_charAt_3b067 2 (some .char), .methodLink RJ1 9 yJ0_checkIndex_df160, .static yJ0_checkIndex_df160, .code yJ0_checkIndex_df160 cJ0_checkIndex_df160 2 none,
  .fieldLink RJ0 1053 "jdk/internal/util/Preconditions" "SIOOBE_FORMATTER" "Ljava/util/function/BiFunction;", .methodLink RJ0 1059 yJ3_checkIndex_8e157, .static yJ3_checkIndex_8e157, .initialized RJ3, .code yJ3_checkIndex_8e157 cJ3_checkIndex_8e157 3 (some .int)]
theorem sx_jws_in : ∀ w ∈ sx_jws, w ∈ sx_W := by
  have h : sx_jws.all (fun w => decide (w ∈ lw_tbl) && goodWord w) = true := by decide +kernel
  intro w hw
  have h1 := List.all_eq_true.mp h w hw
  rw [Bool.and_eq_true] at h1
  exact List.mem_filter.mpr ⟨of_decide_eq_true h1.1, h1.2⟩
def sx_Jc (l : Launch) (D : va_G) (cA : Nat → ClassId) (b sa sv base : Nat) (S : List Int32) (y : MethodName) (cc : ByteArray) (ml : Nat) (ret : Option FieldType) (fr lo : Nat) (as : List Value) (o : Option Value) : Prop :=
  Met l y (.code y cc ml ret :: sx_W) { frames := fr, cells := 0, slots := 0, locals := lo } (va_Pc as (fun U => sx_Env D cA b sa sv base S U)) (fun _ st o' t => o' = .returned o ∧ t.heap = st.heap) 0 0 (sx_A base)
section SXJ
variable {p : Program} {l : Launch} {e : Env} {R : Room} {s : State} {m : MethodId} {args : Array Value} {below : List Frame} {meth : Method} {c : Code} {locs : List Loc} {cells slots : Nat} {Q : State → Prop}
variable {cc : ByteArray} {pc nL : Nat} {ls : Array Slot} {rest : List Value} {D : va_G} {cA : Nat → ClassId} {b sa sv base : Nat} {S : List Int32} {own : String}
theorem sx_jblind {as : List Value} : FrameBlind (va_Pc as (fun U => sx_Env D cA b sa sv base S U)) :=
  fun a U g mk q => ⟨q.1, q.2.moved (s := U) (U := U.calling g mk a) (State.WarmedH.refl U) q.2.2.1.2.2 (fun _ _ => rfl)⟩
theorem sx_jpre (hE : sx_Env D cA b sa sv base S s) {as : List Value} : ∀ U : State, U.heap = s.heap → s.WarmedH U.vm → va_Pc as (fun U => sx_Env D cA b sa sv base S U) as.toArray U :=
  fun U hU hW => ⟨rfl, hE.moved hW (by rw [hU]; exact hE.2.1.2.2) (fun q _ => by rw [hU])⟩
theorem sx_jB (hts : ∀ w ∈ sx_W, w.before args s = true) {y : MethodName} {bytes : ByteArray} {ml fr lo n : Nat} {ret : Option FieldType} {idx : Nat} (hc : Cond.code y bytes ml ret ∈ sx_jws) (hi : Cond.initialized y.cls ∈ sx_jws) (hlk : Cond.methodLink own idx y ∈ sx_jws)
    (hd : y.cls ≠ "java/lang/invoke/MethodHandle" ∧ y.cls ≠ "java/lang/invoke/VarHandle" ∧ (parseMethodDescriptor y.desc).map (fun d => d.parameters.length) = some n) (hR : fr + 1 ≤ R.frames ∧ 8 + (ml + 11) + lo ≤ R.locals) :
    CallB R s args own idx y bytes ml ret (.code y bytes ml ret :: sx_W) { frames := fr, cells := 0, slots := 0, locals := lo } 0 0 n :=
  callB_of n hts (sx_goodW (fun w hw => (List.mem_cons.mp hw).elim (fun e => by rw [e]; exact sx_jws_in _ hc) id)) rfl rfl rfl (hts _ (sx_jws_in _ hi)) (hts _ (sx_jws_in _ hlk)) hd hR
theorem sx_jgo {st0 : List Value} {o : Option Value} (hr : va_Run p l e R s m args below meth c s.heap locs cells slots 0 0 (F0 m pc ls st0) rest (fun st o' t => o' = .returned o ∧ t.heap = st.heap) (sx_A base)) (hS : va_S (sx_A base) s.heap s.heap locs)
    (kk : ∀ locs1, va_S (sx_A base) s.heap s.heap locs1 → W p l e R s m args below meth c s.heap locs1 cells slots Q (F0 m (pc + 3) ls (o.toList ++ rest))) : W p l e R s m args below meth c s.heap locs cells slots Q (F0 m pc ls st0) := by
  intro T hT X
  obtain ⟨v, st₀, t, T', L, h0, X', hL1, e1, e2, ⟨ho, hh⟩, st⟩ := hr T hT X
  have hv : v = o := by injection ho
  subst hv
  have hH : T'.heap = s.heap := by rw [e1, hh, h0]
  obtain ⟨t2, a1, b1⟩ := kk (locs ++ L) ⟨hS.1, hS.2.1, fun z hz => (List.mem_append.mp hz).elim (hS.2.2 z) (hL1 z)⟩ T' hH X'
  exact ⟨t2, st t2 a1, b1⟩
/-- Preconditions.checkIndex -/
theorem sx_j3 (i n : Int32) (v : Value) (hv : v.category = 1) (h0 : ¬ i < 0) (hn : i < n) : sx_Jc l D cA b sa sv base S yJ3_checkIndex_8e157 cJ3_checkIndex_8e157 3 (some .int) 0 0 [.int i, .int n, v] (some (.int i)) := by
  refine Met.ofW (cc := cJ3_checkIndex_8e157) (maxL := 3) (ret := some .int) (by decide) rfl ?_
  intro p e s m args below meth c s₁ B hml hP
  obtain ⟨rfl, hE⟩ := hP
  have hx := B.exec
  have hb := B.bytes
  have hr := B.returns
  have hlocks := B.notSynchronized
  have hS : va_S (sx_A base) s.heap s.heap [] := va_S.rf
  have hl := lv_entry ([.int i, .int n, v]) (n := 3) (by
    show (lg_sl ([.int i, .int n, v] : List Value)).length ≤ 3
    rcases v with _ | _ | _ | _ | _ | _ <;> first | exact Nat.le_of_ble_eq_true rfl | cases hv)
  rw [lg_entry_eq]
  generalize (lg_sl ([.int i, .int n, v]) ++ List.replicate (3 - (lg_sl ([.int i, .int n, v])).length) Slot.unset).toArray = ls at hl ⊢
  refine lv_iload_n hx hb (k := 0) (by decide +kernel) rfl (lv_at hl 0 rfl) ?_
  refine lv_if_lt hx hb (off := 8) (tgt := 9) (by decide +kernel) rfl (fun q => absurd q h0) (fun _ => ?_)
  refine lv_iload_n hx hb (k := 0) (by decide +kernel) rfl (lv_at hl 0 rfl) ?_
  refine lv_iload_n hx hb (k := 1) (by decide +kernel) rfl (lv_at hl 1 rfl) ?_
  refine lv_icmp_lt hx hb (off := 10) (tgt := 16) (by decide +kernel) rfl (fun _ => ?_) (fun q => absurd hn q)
  refine lv_iload_n hx hb (k := 0) (by decide +kernel) rfl (lv_at hl 0 rfl) ?_
  exact W.iret (v := i) hx hb hr (fun t ht hW => ⟨rfl, ht⟩) hS.2.2 (by decide +kernel)
/-- String.checkIndex -/
theorem sx_j0c (i n : Int32) (h0 : ¬ i < 0) (hn : i < n) : sx_Jc l D cA b sa sv base S yJ0_checkIndex_df160 cJ0_checkIndex_df160 2 none 1 40 [.int i, .int n] none := by
  refine Met.ofW (cc := cJ0_checkIndex_df160) (maxL := 2) (ret := none) (by decide) rfl ?_
  intro p e s m args below meth c s₁ B hml hP
  obtain ⟨rfl, hE⟩ := hP
  have hx := B.exec
  have hb := B.bytes
  have hr := B.returns
  have hlocks := B.notSynchronized
  have hts : ∀ w ∈ sx_W, w.before ([Value.int i, .int n]).toArray s = true := fun w hw => atoms_spec (ws := .code yJ0_checkIndex_df160 cJ0_checkIndex_df160 2 none :: sx_W) B.pre w (List.mem_cons_of_mem _ hw)
  have hown : s.vm.findClass RJ0 = some m.cls := findClass_of_methodNamed B.named
  have hS : va_S (sx_A base) s.heap s.heap [] := va_S.rf
  have hl := lv_entry ([.int i, .int n]) (n := 2) (Nat.le_of_ble_eq_true rfl)
  rw [lg_entry_eq]
  generalize (lg_sl ([.int i, .int n]) ++ List.replicate (2 - (lg_sl ([.int i, .int n])).length) Slot.unset).toArray = ls at hl ⊢
  have key : ∀ v : Value, v.category = 1 → va_Z "jdk/internal/util/Preconditions" "SIOOBE_FORMATTER" "Ljava/util/function/BiFunction;" v (sx_A base) s s.heap → W p l e (headSpec (.code yJ0_checkIndex_df160 cJ0_checkIndex_df160 2 none :: sx_W) { frames := 1, cells := 0, slots := 0, locals := 40 }).room s m ([Value.int i, .int n]).toArray below meth c s.heap [] 0 0 (MQ below (fun _ st o' t => o' = .returned none ∧ t.heap = st.heap) ([Value.int i, .int n]).toArray s 0 0 (sx_A base)) (F0 m 0 ls []) := by
    intro v hv hZ
    refine lv_iload_n hx hb (k := 0) (by decide +kernel) rfl (lv_at hl 0 rfl) ?_
    refine lv_iload_n hx hb (k := 1) (by decide +kernel) rfl (lv_at hl 1 rfl) ?_
    refine va_gets hx hb hZ hS hown (hts _ (sx_jws_in (.fieldLink RJ0 1053 "jdk/internal/util/Preconditions" "SIOOBE_FORMATTER" "Ljava/util/function/BiFunction;") (by decide +kernel))) (fun _ h => h) (by decide +kernel) ?_
    refine sx_jgo (va_runS (As := [.int i, .int n, v]) (rest := []) ⟨hx, hb, hml, hown, hts⟩ (sx_j3 (l := l) (D := D) (cA := cA) (b := b) (sa := sa) (sv := sv) (base := base) (S := S) i n v hv h0 hn) ⟨sx_jB (own := RJ0) (idx := 1059) hts (by decide +kernel) (by decide +kernel) (by decide +kernel) (show yJ3_checkIndex_8e157.cls ≠ "java/lang/invoke/MethodHandle" ∧ yJ3_checkIndex_8e157.cls ≠ "java/lang/invoke/VarHandle" ∧ (parseMethodDescriptor yJ3_checkIndex_8e157.desc).map (fun d => d.parameters.length) = some 3 by decide +kernel) ⟨by decide, by decide⟩, hts _ (sx_jws_in (.static yJ3_checkIndex_8e157) (by decide +kernel))⟩ ⟨sx_jblind, sx_jpre hE⟩ rfl rfl hl.1 rfl (Nat.zero_le 8) (show decode cJ0_checkIndex_df160 5 = .ok (.invokestatic 1059, 3) by decide +kernel) ⟨Nat.le_refl _, Nat.le_refl _⟩) hS (fun locs hS => ?_)
    refine lv_pop hx hb (by decide +kernel) rfl ?_
    exact W.vret hx hb hr (fun t ht hW => ⟨rfl, ht⟩) hS.2.2 (by decide +kernel)
  rcases hE.2.2.2.2.2.2.2.2.2 with h | ⟨t, h⟩
  · exact key _ rfl h
  · exact key _ rfl h
/-- StringLatin1.charAt -/
theorem sx_j1c (x : Int32) (hx3 : ¬ (x < 0 ∨ 3 ≤ x.toNatClampNeg)) : sx_Jc l D cA b sa sv base S yJ1_charAt_3b067 cJ1_charAt_3b067 2 (some .char) 2 90 [.ref sv, .int x] (some (.int ([108, 112, 98].getD x.toNatClampNeg 0))) := by
  refine Met.ofW (cc := cJ1_charAt_3b067) (maxL := 2) (ret := some .char) (by decide) rfl ?_
  intro p e s m args below meth c s₁ B hml hP
  obtain ⟨rfl, hE⟩ := hP
  have hx := B.exec
  have hb := B.bytes
  have hr := B.returns
  have hlocks := B.notSynchronized
  have hts : ∀ w ∈ sx_W, w.before ([Value.ref sv, .int x]).toArray s = true := fun w hw => atoms_spec (ws := .code yJ1_charAt_3b067 cJ1_charAt_3b067 2 (some .char) :: sx_W) B.pre w (List.mem_cons_of_mem _ hw)
  have hown : s.vm.findClass RJ1 = some m.cls := findClass_of_methodNamed B.named
  have hS : va_S (sx_A base) s.heap s.heap [] := va_S.rf
  have hT : va_T .byte sv 3 (fun j => .int ([108, 112, 98].getD j 0)) (sx_A base) s s.heap := (hE.2.2.2.2.2.2.2.1.1 0 (by omega)).2.2.2
  obtain ⟨j, hj, rfl⟩ := vp_in_of (x := x) (n := 3) hx3 (by omega)
  have hjc : (nI j).toNatClampNeg = j := nI_clamp (by omega)
  have hl := lv_entry ([.ref sv, .int (nI j)]) (n := 2) (Nat.le_of_ble_eq_true rfl)
  rw [lg_entry_eq]
  generalize (lg_sl ([.ref sv, .int (nI j)]) ++ List.replicate (2 - (lg_sl ([.ref sv, .int (nI j)])).length) Slot.unset).toArray = ls at hl ⊢
  refine lv_iload_n hx hb (k := 1) (by decide +kernel) rfl (lv_at hl 1 rfl) ?_
  refine lv_aload_n hx hb (k := 0) (by decide +kernel) rfl (lv_at hl 0 rfl) ?_
  refine va_tlen hx hb hT hS (v := nI 3) rfl (by decide +kernel) ?_
  refine sx_jgo (va_runS (As := [.int (nI j), .int (nI 3)]) (rest := []) ⟨hx, hb, hml, hown, hts⟩ (sx_j0c (l := l) (D := D) (cA := cA) (b := b) (sa := sa) (sv := sv) (base := base) (S := S) (nI j) (nI 3) (nI_pos (by omega)) (nI_lt hj (by omega))) ⟨sx_jB (own := RJ1) (idx := 9) hts (by decide +kernel) (by decide +kernel) (by decide +kernel) (show yJ0_checkIndex_df160.cls ≠ "java/lang/invoke/MethodHandle" ∧ yJ0_checkIndex_df160.cls ≠ "java/lang/invoke/VarHandle" ∧ (parseMethodDescriptor yJ0_checkIndex_df160.desc).map (fun d => d.parameters.length) = some 2 by decide +kernel) ⟨by decide, by decide⟩, hts _ (sx_jws_in (.static yJ0_checkIndex_df160) (by decide +kernel))⟩ ⟨sx_jblind, sx_jpre hE⟩ rfl rfl hl.1 rfl (Nat.zero_le 8) (show decode cJ1_charAt_3b067 3 = .ok (.invokestatic 9, 3) by decide +kernel) ⟨Nat.le_refl _, Nat.le_refl _⟩) hS (fun locs hS => ?_)
  refine lv_aload_n hx hb (k := 0) (by decide +kernel) rfl (lv_at hl 0 rfl) ?_
  refine lv_iload_n hx hb (k := 1) (by decide +kernel) rfl (lv_at hl 1 rfl) ?_
  refine va_tb hx hb hT hS (v := .int ([108, 112, 98].getD j 0)) hx3 (by rw [hjc]) (by decide +kernel) ?_
  refine lv_sipush hx hb (n := 255) (v := 255) (by decide +kernel) (by decide) ?_
  refine lv_iand hx hb (by decide +kernel) ?_
  have hc : ∃ z : Int32, z = [108, 112, 98].getD j 0 ∧ z &&& 255 = z ∧ (z.toUInt32 % 65536).toInt32 = z ∧ narrow .char (.int z) = .int z := by
    rcases (show j = 0 ∨ j = 1 ∨ j = 2 by omega) with rfl | rfl | rfl
    · exact ⟨108, rfl, by decide, by decide, by decide⟩
    · exact ⟨112, rfl, by decide, by decide, by decide⟩
    · exact ⟨98, rfl, by decide, by decide, by decide⟩
  obtain ⟨z, e1, e2, e3, e4⟩ := hc
  rw [hjc, ← e1, e2]
  refine lv_i2c hx hb (v := z) (by decide +kernel) e3 ?_
  exact W.zret (v := z) hx hb hr e4 (fun t ht hW => ⟨rfl, ht⟩) hS.2.2 (by decide +kernel)
/-- String.isLatin1 -/
theorem sx_j0l : sx_Jc l D cA b sa sv base S yJ0_isLatin1_aae02 cJ0_isLatin1_aae02 1 (some .boolean) 0 0 [.ref sa] (some (.int 1)) := by
  refine Met.ofW (cc := cJ0_isLatin1_aae02) (maxL := 1) (ret := some .boolean) (by decide) rfl ?_
  intro p e s m args below meth c s₁ B hml hP
  obtain ⟨rfl, hE⟩ := hP
  have hx := B.exec
  have hb := B.bytes
  have hr := B.returns
  have hlocks := B.notSynchronized
  have hts : ∀ w ∈ sx_W, w.before ([Value.ref sa]).toArray s = true := fun w hw => atoms_spec (ws := .code yJ0_isLatin1_aae02 cJ0_isLatin1_aae02 1 (some .boolean) :: sx_W) B.pre w (List.mem_cons_of_mem _ hw)
  have hown : s.vm.findClass RJ0 = some m.cls := findClass_of_methodNamed B.named
  have hS : va_S (sx_A base) s.heap s.heap [] := va_S.rf
  have hC := hE.2.2.2.2.2.2.2.1.1 0 (by omega)
  have hZ := hE.2.2.2.2.2.2.2.2.1
  have hl := lv_entry ([.ref sa]) (n := 1) (Nat.le_of_ble_eq_true rfl)
  rw [lg_entry_eq]
  generalize (lg_sl ([.ref sa]) ++ List.replicate (1 - (lg_sl ([.ref sa])).length) Slot.unset).toArray = ls at hl ⊢
  refine va_gets hx hb hZ hS hown (hts _ (sx_jws_in (.fieldLink RJ0 38 "java/lang/String" "COMPACT_STRINGS" "Z") (by decide +kernel))) (fun _ h => h) (by decide +kernel) ?_
  refine lv_if_eq hx hb (off := 14) (tgt := 17) (by decide +kernel) rfl (fun q => absurd q (by decide)) (fun _ => ?_)
  refine lv_aload_n hx hb (k := 0) (by decide +kernel) rfl (lv_at hl 0 rfl) ?_
  refine vk_getf hx hb hC.2.1 hS hown (hts _ (sx_jws_in (.fieldLink RJ0 15 "java/lang/String" "coder" "B") (by decide +kernel))) (fun _ h => h) (by decide +kernel) ?_
  refine lv_if_ne hx hb (off := 7) (tgt := 17) (by decide +kernel) rfl (fun q => absurd rfl q) (fun _ => ?_)
  refine lv_iconst hx hb (n := 1) (v := 1) (by decide +kernel) rfl ?_
  refine lv_goto hx hb (off := 4) (tgt := 18) (by decide +kernel) rfl ?_
  exact W.zret (v := 1) hx hb hr (by decide) (fun t ht hW => ⟨rfl, ht⟩) hS.2.2 (by decide +kernel)
/-- String.charAt -/
theorem sx_chr_ok : sx_Chr l D cA b sa sv base S := by
  intro x hx3
  refine Met.ofW (cc := cJ0_charAt_5068e) (maxL := 2) (ret := some .char) (by decide) rfl ?_
  intro p e s m args below meth c s₁ B hml hP
  obtain ⟨rfl, hE⟩ := hP
  have hx := B.exec
  have hb := B.bytes
  have hr := B.returns
  have hlocks := B.notSynchronized
  have hts : ∀ w ∈ sx_W, w.before ([Value.ref sa, .int x]).toArray s = true := fun w hw => atoms_spec (ws := .code yJ0_charAt_5068e cJ0_charAt_5068e 2 (some .char) :: sx_W) B.pre w (List.mem_cons_of_mem _ hw)
  have hown : s.vm.findClass RJ0 = some m.cls := findClass_of_methodNamed B.named
  have hS : va_S (sx_A base) s.heap s.heap [] := va_S.rf
  have hC := hE.2.2.2.2.2.2.2.1.1 0 (by omega)
  have hvS := hE.2.2.2.2.2.2.2.1
  have hl := lv_entry ([.ref sa, .int x]) (n := 2) (Nat.le_of_ble_eq_true rfl)
  rw [lg_entry_eq]
  generalize (lg_sl ([.ref sa, .int x]) ++ List.replicate (2 - (lg_sl ([.ref sa, .int x])).length) Slot.unset).toArray = ls at hl ⊢
  refine lv_aload_n hx hb (k := 0) (by decide +kernel) rfl (lv_at hl 0 rfl) ?_
  refine sx_jgo (va_runV (C := RJ0) (As := []) (rest := []) ⟨hx, hb, hml, hown, hts⟩ (sx_j0l (l := l) (D := D) (cA := cA) (b := b) (sa := sa) (sv := sv) (base := base) (S := S)) ⟨sx_jB (own := RJ0) (idx := 492) hts (by decide +kernel) (by decide +kernel) (by decide +kernel) (show yJ0_isLatin1_aae02.cls ≠ "java/lang/invoke/MethodHandle" ∧ yJ0_isLatin1_aae02.cls ≠ "java/lang/invoke/VarHandle" ∧ (parseMethodDescriptor yJ0_isLatin1_aae02.desc).map (fun d => d.parameters.length) = some 0 by decide +kernel) ⟨by decide, by decide⟩, hts _ (sx_jws_in (.instanceMethod yJ0_isLatin1_aae02) (by decide +kernel)), hts _ (sx_jws_in (.selects RJ0 yJ0_isLatin1_aae02 yJ0_isLatin1_aae02) (by decide +kernel))⟩ ⟨sx_jblind, vk_recv hvS (i := 0) (by omega) hS, sx_jpre hE⟩ rfl rfl hl.1 rfl (Nat.zero_le 8) (show decode cJ0_charAt_5068e 1 = .ok (.invokevirtual 492, 3) by decide +kernel) ⟨Nat.le_refl _, Nat.le_refl _⟩) hS (fun locs hS => ?_)
  refine lv_if_eq hx hb (off := 12) (tgt := 16) (by decide +kernel) rfl (fun q => absurd q (by decide)) (fun _ => ?_)
  refine lv_aload_n hx hb (k := 0) (by decide +kernel) rfl (lv_at hl 0 rfl) ?_
  refine vk_getf hx hb hC.2.2.1 hS hown (hts _ (sx_jws_in (.fieldLink RJ0 9 "java/lang/String" "value" "[B") (by decide +kernel))) (fun _ h => h) (by decide +kernel) ?_
  refine lv_iload_n hx hb (k := 1) (by decide +kernel) rfl (lv_at hl 1 rfl) ?_
  refine sx_jgo (va_runS (As := [.ref sv, .int x]) (rest := []) ⟨hx, hb, hml, hown, hts⟩ (sx_j1c (l := l) (D := D) (cA := cA) (b := b) (sa := sa) (sv := sv) (base := base) (S := S) x hx3) ⟨sx_jB (own := RJ0) (idx := 495) hts (by decide +kernel) (by decide +kernel) (by decide +kernel) (show yJ1_charAt_3b067.cls ≠ "java/lang/invoke/MethodHandle" ∧ yJ1_charAt_3b067.cls ≠ "java/lang/invoke/VarHandle" ∧ (parseMethodDescriptor yJ1_charAt_3b067.desc).map (fun d => d.parameters.length) = some 2 by decide +kernel) ⟨by decide, by decide⟩, hts _ (sx_jws_in (.static yJ1_charAt_3b067) (by decide +kernel))⟩ ⟨sx_jblind, sx_jpre hE⟩ rfl rfl hl.1 rfl (Nat.zero_le 8) (show decode cJ0_charAt_5068e 12 = .ok (.invokestatic 495, 3) by decide +kernel) ⟨Nat.le_refl _, Nat.le_refl _⟩) hS (fun locs hS => ?_)
  have hn : narrow .char (.int ([108, 112, 98].getD x.toNatClampNeg 0)) = .int ([108, 112, 98].getD x.toNatClampNeg 0) := by
    obtain ⟨j, hj, rfl⟩ := vp_in_of (x := x) (n := 3) hx3 (by omega)
    rw [nI_clamp (by omega)]
    rcases (show j = 0 ∨ j = 1 ∨ j = 2 by omega) with rfl | rfl | rfl <;> decide
  exact W.zret hx hb hr hn (fun t ht hW => ⟨rfl, ht⟩) hS.2.2 (by decide +kernel)
end SXJ
