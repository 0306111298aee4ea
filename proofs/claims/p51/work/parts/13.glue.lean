/-! THE GLUE: what the law's entry gives, and the law's walk out of the shadow machine's -/
theorem sx_inst : ∀ c, c < 7 → Cond.instantiable (sx_RN c) (sx_N c) ∈ lw_tbl := sx_c7 (by decide +kernel) (by decide +kernel) (by decide +kernel) (by decide +kernel) (by decide +kernel) (by decide +kernel) (by decide +kernel)
theorem sx_gth : (sx_th.all fun q => decide (Cond.stringRef RX10 q.2.2.2.1 q.2.2.2.2.2.2.2 ∈ lw_tbl)) = true := by decide +kernel
theorem sx_gex : (sx_th.all fun q => decide (Cond.exactly (.string RX10 q.2.2.2.1) "java/lang/String" ∈ flatC (Jvm.Cond.and given_1 narrow_1))) = true := by decide +kernel
theorem sx_gnc : ((List.range 5).all fun i => (List.range 5).all fun j => i == j || decide (Cond.not (.castable (sx_en i) (sx_en j)) ∈ flatC (Jvm.Cond.and given_1 narrow_1))) = true := by decide +kernel
theorem sx_gnb : (sx_NB.all fun w => w.onTables) = true := by decide +kernel
/-- the script as a list -/
def sx_S (L : Nat) (xs : Nat → Int32) : List Int32 := (List.range L).map xs
theorem sx_S_len (L : Nat) (xs : Nat → Int32) : (sx_S L xs).length = L := by simp [sx_S]
theorem sx_S_get (L : Nat) (xs : Nat → Int32) (j : Nat) (h : j < L) : (sx_S L xs).getD j 0 = xs j := by simp [sx_S, h]
theorem sx_X {L b : Nat} {xs : Nat → Int32} {U : State} {H : Heap} (h : va_X b L xs U H) : va_X b (sx_S L xs).length (fun j => (sx_S L xs).getD j 0) U H := by
  obtain ⟨scr, h1, h2, h3, h4, h5⟩ := h
  exact ⟨scr, h1, h2, h3, by rw [h4, sx_S_len], fun j hj => by
    rw [sx_S_len] at hj
    show scr.slots[j]? = some (.int ((sx_S L xs).getD j 0))
    rw [sx_S_get L xs j hj]
    exact h5 j hj⟩
theorem sx_env_of {s : State} {args : Array Value} {b L : Nat} {xs : Nat → Int32} (hts : ∀ w ∈ lw_tbl, w.before args s = true) (hg : (Jvm.Cond.and given_1 narrow_1).before args s = true) (hX : va_X b L xs s s.heap) (hb : b < s.heap.size) :
    ∃ (D : va_G) (cA : Nat → ClassId) (sa sv : Nat), sx_Env D cA b sa sv s.heap.size (sx_S L xs) s := by
  have hs := flat_of_before _ hg
  have hA : ∀ a : Nat, a < s.heap.size → ¬ sx_A s.heap.size a := fun a h h2 => absurd h (Nat.not_lt.mpr h2)
  have hk : ∀ ci : Nat, ∃ d : ClassId × (Nat → Nat), ci < 7 → u_Kn s (sx_RN ci) (sx_T ci) (sx_N ci) d.1 d.2 := by
    intro ci
    by_cases h : ci < 7
    · obtain ⟨c1, i1, h1⟩ := u_known (C := sx_RN ci) (T := sx_T ci) (N := sx_N ci) (n := sx_N ci) hts (fun w hw => (sx_hin0 ci h w hw).1) (hts _ (sx_inst ci h))
      exact ⟨(c1, i1), fun _ => h1⟩
    · exact ⟨(0, fun _ => 0), fun q => absurd q h⟩
  obtain ⟨d, hd⟩ := Classical.skolem.mp hk
  obtain ⟨c0, k0, comp0, a1, a2, a3⟩ := Cond.arrayClass_spec (hts (.arrayClass .int) (by decide +kernel))
  obtain ⟨comp1, c1, k1, b1, b2, b3, b4, b5⟩ := Cond.arrayOver_spec (hts (.arrayOver (.object "Beadslant$Cloth")) (by decide +kernel))
  obtain ⟨comp2, c2, k2, e1, e2, e3, e4, e5⟩ := Cond.arrayOver_spec (hts (.arrayOver (.object "Beadslant$Shape")) (by decide +kernel))
  have tl : (Term.string "BeadslantLaw" 111).eval args s none [] s = (Term.string "BeadslantLaw" 111).eval args s none [] s := rfl
  obtain ⟨adK, adV, hvS, hadr⟩ := vk_Sof (args := args) (s := s) (N := 1) (tm := fun _ => .string "BeadslantLaw" 111) (len := [3]) (byt := [[108, 112, 98]]) (A := sx_A s.heap.size)
    (fun i hi => by rcases (show i = 0 by omega) with rfl; decide)
    (fun i hi => hs (.exactly (.string "BeadslantLaw" 111) "java/lang/String") (by decide +kernel))
    (fun i hi => hs (.eq (.field (.string "BeadslantLaw" 111) "java/lang/String" "coder" "B") (.int 0)) (by decide +kernel))
    (fun i hi => hs (.arrayOf (.field (.string "BeadslantLaw" 111) "java/lang/String" "value" "[B") .byte) (by decide +kernel))
    (fun i hi => by
      rcases (show i = 0 by omega) with rfl
      exact hs (.eq (.length (.field (.string "BeadslantLaw" 111) "java/lang/String" "value" "[B")) (.int 3)) (by decide +kernel))
    (fun i hi j hj => by
      rcases (show i = 0 by omega) with rfl
      have hj : j < 3 := hj
      rcases (show j = 0 ∨ j = 1 ∨ j = 2 by omega) with rfl | rfl | rfl
      · exact hs (.eq (.elem (.field (.string "BeadslantLaw" 111) "java/lang/String" "value" "[B") (.int 0)) (.int 108)) (by decide +kernel)
      · exact hs (.eq (.elem (.field (.string "BeadslantLaw" 111) "java/lang/String" "value" "[B") (.int 1)) (.int 112)) (by decide +kernel)
      · exact hs (.eq (.elem (.field (.string "BeadslantLaw" 111) "java/lang/String" "value" "[B") (.int 2)) (.int 98)) (by decide +kernel))
    (fun i j hi hj hij => absurd (show i = j by omega) hij) hA
  refine ⟨(fun ci => (d ci).1, fun ci => (d ci).2), fun i => if i = 0 then c0 else if i = 1 then c1 else c2, adK 0, adV 0, ⟨fun ci q hq => ?_, fun i q hq => ?_⟩, ⟨sx_X hX, hb, Nat.le_refl _⟩, fun w hw => ?_, ⟨va_AO.of (A := args) (hts _ (by decide +kernel)), va_AO.of (A := args) (hts _ (by decide +kernel))⟩, ⟨fun q hq => ?_, ?_⟩, ⟨?_, ?_⟩, fun i j hi hj hij => ?_, ?_, ?_, ?_⟩
  · have h7 : ci < 7 := by
      have := (List.getElem?_eq_some_iff.mp hq).1
      exact this
    have hq2 := (sx_vw ci h7).symm.trans hq
    cases hq2
    exact hd ci h7
  · match i, hq with
    | 0, hq => cases hq; exact ⟨fun n z => ⟨(fun k h => by cases h), k0, a2, comp0, a3⟩, a1⟩
    | 1, hq => cases hq; exact ⟨fun n z => ⟨(fun k h => by cases h), k1, b3, comp1, b4⟩, k1, comp1, b3, b4, b1, b5⟩
    | 2, hq => cases hq; exact ⟨fun n z => ⟨(fun k h => by cases h), k2, e3, comp2, e4⟩, k2, comp2, e3, e4, e1, e5⟩
    | i + 3, hq => simp [sx_tys] at hq
  · exact va_Nw.of (List.all_eq_true.mp sx_gnb w hw) (hts w ((List.mem_filter.mp hw).1))
  · have h1 := hts _ (of_decide_eq_true (List.all_eq_true.mp sx_gth q hq))
    obtain ⟨a, -, -, -, q1, -⟩ := Cond.exactly_spec (args := args) (first := s) (o := none) (s := s) (idx := []) (t := .string RX10 q.2.2.2.1) (cls := "java/lang/String") (hs _ (of_decide_eq_true (List.all_eq_true.mp sx_gex q hq)))
    exact ⟨a, vk_R.of (A := args) h1 q1⟩
  · exact vk_R.of (A := args) (hts (.stringRef "BeadslantLaw" 111 "lpb") (by decide +kernel)) (hadr 0 (by omega))
  · exact vx_Zqof (args := args) (hts (.laysStatic "java/lang/Throwable" "UNASSIGNED_STACK" "[Ljava/lang/StackTraceElement;") (by decide +kernel)) (hts (.initialized "java/lang/Throwable") (by decide +kernel)) (hs (.isRef (.static "java/lang/Throwable" "UNASSIGNED_STACK" "[Ljava/lang/StackTraceElement;")) (by decide +kernel)) hA
  · exact vx_Zqof (args := args) (hts (.laysStatic "java/lang/Throwable" "SUPPRESSED_SENTINEL" "Ljava/util/List;") (by decide +kernel)) (hts (.initialized "java/lang/Throwable") (by decide +kernel)) (hs (.isRef (.static "java/lang/Throwable" "SUPPRESSED_SENTINEL" "Ljava/util/List;")) (by decide +kernel)) hA
  · have h1 := List.all_eq_true.mp (List.all_eq_true.mp sx_gnc i (List.mem_range.mpr hi)) j (List.mem_range.mpr hj)
    rw [Bool.or_eq_true, beq_iff_eq] at h1
    exact va_Nc.of (hs _ (of_decide_eq_true (h1.resolve_left hij)))
  · refine ⟨fun i hi => ?_, fun i j hi hj _ => by omega⟩
    rcases (show i = 0 by omega) with rfl
    exact hvS.1 0 hi
  · exact va_Zof (args := args) (hts (.laysStatic "java/lang/String" "COMPACT_STRINGS" "Z") (by decide +kernel)) (hts (.initialized "java/lang/String") (by decide +kernel)) (va_eqi (hs (.eq (.static "java/lang/String" "COMPACT_STRINGS" "Z") (.int 1)) (by decide +kernel))) hA
  · exact va_Zqof (args := args) (hts (.laysStatic "jdk/internal/util/Preconditions" "SIOOBE_FORMATTER" "Ljava/util/function/BiFunction;") (by decide +kernel)) (hts (.initialized "jdk/internal/util/Preconditions") (by decide +kernel)) (hs (.isRef (.static "jdk/internal/util/Preconditions" "SIOOBE_FORMATTER" "Ljava/util/function/BiFunction;")) (by decide +kernel)) hA
/-- where the law's shadow comes to an end with 1, in its room, the law does -/
def sx_lawOk (S : List Int32) : Prop := ∃ h : sx_H, sx_Ev S 121 0 (some (.ref 0) :: List.replicate 32 none) [] ([], 0) = some (.inl (some (.int 1)), h) ∧ h.1.length ≤ 600104 ∧ h.2 ≤ 7301314
theorem sx_law_tab : sx_b 121 = code ∧ sx_rt 121 = ret ∧ sx_ml 121 = 33 ∧ sx_cn (sx_own 121) = "BeadslantLaw" ∧ sx_isI 121 = false ∧ sx_hh 121 = [] ∧ sx_fr 121 ≤ 12 ∧ sx_lo 121 ≤ 444 := by
  refine ⟨rfl, rfl, rfl, rfl, rfl, rfl, by decide, by decide⟩
theorem sx_walk {p : Program} {e : Env} {s : State} {m : MethodId} {below : List Frame} {meth : Method} {c : Code} (l : Launch) (hl : l.stackTraces = false) {b L : Nat} {xs : Nat → Int32} (hlaw : sx_lawOk (sx_S L xs))
    (hx : p.tables.exec = Jvm.exec) (hb : c.code = code) (hr : meth.sig.returnType = ret) (hml : c.maxLocals = 33) (hown : s.vm.findClass "BeadslantLaw" = some m.cls) (htab : c.exceptionTable.toList = []) (hts : ∀ w ∈ lw_tbl, w.before #[Value.ref b] s = true) (hX : va_X b L xs s s.heap) (hbs : b < s.heap.size) (hlocks : meth.locks = false) (hg : (Jvm.Cond.and given_1 narrow_1).before #[Value.ref b] s = true) :
    W p l e room_1 s m #[Value.ref b] below meth c s.heap [] 0 0 (fun t => ∃ o, t.status = .running ∧ Ended t below o ∧ o = .returned (some (.int 1)) ∧ Framed s o t [] 600104 7301314) (entryFrame m ([Value.ref b] : List Value).toArray 33) := by
  obtain ⟨D, cA, sa, sv, hE⟩ := sx_env_of hts hg hX hbs
  obtain ⟨h9, hrun, hc9, hs9⟩ := hlaw
  obtain ⟨n, hn⟩ := sx_Ev_iff.mp hrun
  obtain ⟨t1, t2, t3, t4, t5, t6, t7, t8⟩ := sx_law_tab
  have C : sx_Ctx p l room_1 s m #[Value.ref b] meth c 121 D cA b sa sv s.heap.size (sx_S L xs) :=
    ⟨hx, by rw [t1]; exact hb, by rw [t2]; exact hr, hlocks, by rw [t3]; exact hml, by rw [t4]; exact hown, (fun hi => by rw [t5] at hi; cases hi), by rw [t6]; exact htab, fun w hw => hts w ((List.mem_filter.mp hw).1), hE, t7, t8, hl⟩
  have K := sx_sim (D := D) (cA := cA) (b := b) (sa := sa) (sv := sv) (base := s.heap.size) (S := sx_S L xs) hl sx_chr_ok n 121 _ _ _ hn (e := e) (below := below) C 0 0 600104 7301314 (by simpa using hc9) (by simpa using hs9) (Nat.le_refl _) (Nat.le_refl _)
  have K2 := K s.heap [] _ (sx_entry (g := sx_ad b sa s.heap.size) (j := 121) (as := [.ref 0]) (by rw [t3]; decide) rfl) ⟨rfl, fun i c hi => by simp at hi⟩ va_S.rf
  rw [lg_entry_eq]
  intro T hT X
  obtain ⟨t, a1, o, b1, b2, b3⟩ := K2 T hT X
  refine ⟨t, a1, o, b1, b2, ?_⟩
  rcases b3 with ⟨⟨v, hv, ho, -, -⟩, L9, hF, hL9⟩ | ⟨q, -, b4⟩
  · cases hv
    exact ⟨ho, hF.1, hF.2.1, State.sameButNew.drop_fresh (L := []) (J := L9) hF.2.2 hL9⟩
  · exfalso
    obtain ⟨E, ce, L9, ⟨x, -, hx1, -⟩, -⟩ := b4
    cases hx1
