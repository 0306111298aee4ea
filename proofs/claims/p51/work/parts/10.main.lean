theorem sx_len_sl {g : Nat → Nat} : ∀ {as : List Value}, as.all sx_cat = true → lg_sl (as.map (sx_cv g)) = (as.map (sx_cv g)).map Slot.val
  | [], _ => rfl
  | v :: as, h => by
    simp only [List.all_cons, Bool.and_eq_true] at h
    have ih := sx_len_sl (g := g) h.2
    have c1 := sx_cat_cv (g := g) h.1
    unfold lg_sl at ih ⊢
    simp only [List.map_cons, List.flatMap_cons, ih]
    rw [if_neg (by rw [c1]; decide)]
    rfl
theorem sx_lv_args {g : Nat → Nat} {q : Nat × Value} {n : Nat} : ∀ {as : List Value} {i : Nat}, as.all sx_cat = true → q ∈ sx_lv g i (as.map some ++ List.replicate n none) → q ∈ lv_args i (as.map (sx_cv g))
  | [], i, _, h => by
    exfalso
    obtain ⟨j, v, -, h2, -⟩ := sx_lv_mem h
    simp [List.getElem?_replicate] at h2
  | v :: as, i, hc, h => by
    simp only [List.all_cons, Bool.and_eq_true] at hc
    have c1 := sx_cat_cv (g := g) hc.1
    simp only [List.map_cons, lv_args]
    rw [if_neg (by rw [c1]; decide)]
    rcases List.mem_cons.mp h with rfl | h
    · exact List.mem_cons_self
    · exact List.mem_cons_of_mem _ (sx_lv_args hc.2 h)
theorem sx_enter_some {j : Nat} {as : List Value} {G : sx_F} (h : sx_enter j as = some G) : as.length = sx_np j ∧ sx_np j ≤ sx_ml j ∧ as.all sx_cat = true ∧ G = (0, as.map some ++ List.replicate (sx_ml j - as.length) none, []) := by
  unfold sx_enter at h
  split at h
  · rename_i hc
    cases h
    exact ⟨hc.1, hc.2.1, hc.2.2, rfl⟩
  · cases h
/-- the locals at a method's entry -/
theorem sx_entry {g : Nat → Nat} {j : Nat} {as : List Value} (h1 : as.length ≤ sx_ml j) (h2 : as.all sx_cat = true) :
    sx_LR g (sx_ml j) (as.map some ++ List.replicate (sx_ml j - as.length) none) ((lg_sl (as.map (sx_cv g)) ++ List.replicate (sx_ml j - (lg_sl (as.map (sx_cv g))).length) Slot.unset).toArray) := by
  have hl : (lg_sl (as.map (sx_cv g))).length ≤ sx_ml j := by rw [sx_len_sl h2]; simpa using h1
  obtain ⟨e1, e2, e3⟩ := lv_entry (as.map (sx_cv g)) (n := sx_ml j) hl
  refine ⟨by simp; omega, fun i v hi => ?_, e1, e2, fun q hq => e3 q (sx_lv_args h2 hq)⟩
  by_cases hlt : i < as.length
  · rw [List.getElem?_append_left (by simpa using hlt), List.getElem?_map] at hi
    obtain ⟨w, hw, e⟩ := Option.map_eq_some_iff.mp hi
    cases e
    exact List.all_eq_true.mp h2 _ (List.mem_of_getElem? hw)
  · rw [List.getElem?_append_right (by simpa using Nat.not_lt.mp hlt), List.getElem?_replicate] at hi
    split at hi <;> cases hi
section SXM
variable {l : Launch} {D : va_G} {cA : Nat → ClassId} {b sa sv base : Nat} {S : List Int32}
/-- a contract out of a body -/
theorem sx_con_of (hl : l.stackTraces = false) {j : Nat} {as : List Value} {h : sx_H} {r : sx_R} {G : sx_F} (hj : j < 121) (hG : sx_enter j as = some G)
    (body : ∀ {p : Program} {e : Env} {R : Room} {s : State} {m : MethodId} {args : Array Value} {below : List Frame} {meth : Method} {c : Code}, sx_Ctx p l R s m args meth c j D cA b sa sv base S → R.cells = r.2.1.length - h.1.length → R.slots = r.2.2 - h.2 →
      sx_At p l e R s m args below meth c (vx_MQ below (sx_Qc D cA b sa base r) (sx_XC D cA b sa base r) args s (r.2.1.length - h.1.length) (r.2.2 - h.2) (sx_A base)) j D cA b sa base 0 0 G.1 G.2.1 G.2.2 h) : sx_Con l D cA b sa sv base S j as h r := by
  obtain ⟨f1, f2, f3, f4, f5, f6, f7, f8, f9, f10, f11, f12, f13⟩ := sx_mfacts hj
  obtain ⟨g1, g2, g3, rfl⟩ := sx_enter_some hG
  refine MetFree.of_bodySF (code := sx_b j) (maxLocals := sx_ml j) (ret := sx_rt j) f8 ?_ ?_
  · intro args s m hpre hn
    have hws : ∀ w ∈ sx_ws j, w.before args s = true := atoms_spec (ws := sx_ws j) hpre
    by_cases hh : sx_hh j = []
    · have h9 := hws _ (by rw [sx_hd_code hh]; exact List.mem_cons_self)
      obtain ⟨meth, c, h1, h2, h3, h4, h5, h6, -, -⟩ := Cond.code_spec hn h9
      exact ⟨meth, c, h1, h2, h3, h4, h5, h6⟩
    · have h9 := hws _ (by rw [sx_hd_with hh]; exact List.mem_cons_self)
      obtain ⟨m9, meth, c, hn9, h1, h2, h3, h4, -, h5, h6, -⟩ := Cond.codeWith_spec h9
      cases hn.symm.trans hn9
      exact ⟨meth, c, h1, h2, h3, h4, h5, h6⟩
  · intro p e s m args below meth c s₁ B hml hP _
    obtain ⟨rfl, hE, hR⟩ := hP
    have hws : ∀ w ∈ sx_ws j, w.before (as.map (sx_cv (sx_ad b sa base))).toArray s = true := atoms_spec (ws := sx_ws j) B.pre
    have hh0 : s₁.heap = s.heap := by rw [B.state]; rfl
    have htab : c.exceptionTable.toList = tableOf (sx_hh j) := by
      by_cases hh : sx_hh j = []
      · have h9 := hws _ (by rw [sx_hd_code hh]; exact List.mem_cons_self)
        obtain ⟨meth9, c9, h1, h2, -, -, -, -, h7, -⟩ := Cond.code_spec B.named h9
        cases Option.some.inj (h1.symm.trans B.method)
        cases Option.some.inj (h2.symm.trans (Stand.of_body B).code)
        rw [Array.isEmpty_iff.mp h7, hh]
        rfl
      · exact vx_table (x := sx_y j) B (hws _ (by rw [sx_hd_with hh]; exact List.mem_cons_self))
    have C : sx_Ctx p l (headSpec (sx_ws j) (sx_rm j (r.2.1.length - h.1.length) (r.2.2 - h.2))).room s m (as.map (sx_cv (sx_ad b sa base))).toArray meth c j D cA b sa sv base S :=
      ⟨B.exec, B.bytes, B.returns, B.notSynchronized, hml, by rw [← f10]; exact findClass_of_methodNamed B.named, fun hi => by
        rw [(name_of_methodNamed B.named B.method).1]
        rw [f11] at hi
        exact of_decide_eq_true hi, htab, fun w hw => hws w (List.mem_cons_of_mem _ hw), hE, Nat.le_refl _, Nat.le_refl _, hl⟩
    have K := body (e := e) (below := below) C rfl rfl s.heap [] _ (sx_entry (g := sx_ad b sa base) (by omega) g3) hR va_S.rf
    have K2 := K s₁ hh0 (Stand.of_body B)
    rw [lg_entry_eq]
    obtain ⟨t, a1, o, b1, b2, b3⟩ := K2
    exact ⟨t, o, a1, b1, b2, b3⟩
variable {p : Program} {e : Env} {R : Room} {s : State} {m : MethodId} {args : Array Value} {below : List Frame} {meth : Method} {c : Code} {Q : State → Prop} {k : Nat}
/-- behind a call -/
theorem sx_after {H : Heap} {locs : List Loc} {ls : Array Slot} {cells slots pc : Nat} {sls : sx_L} {st0 : List Value} {st1 : List Value} {a : Array Value} {h : sx_H} {r : sx_R} (hL : sx_LR (sx_ad b sa base) (sx_ml k) sls ls) (hR : sx_Rep D (sx_ad b sa base) cA base h H) (hS : va_S (sx_A base) s.heap H locs) (hbs : base ≤ s.heap.size) (hle : sx_le h r.2)
    (hr : vx_Run p l e R s m args below meth c H locs cells slots (r.2.1.length - h.1.length) (r.2.2 - h.2) (F0 m pc ls st0) (st1.map (sx_cv (sx_ad b sa base))) (sx_Qc D cA b sa base r a) (sx_XC D cA b sa base r) (sx_A base))
    (kx : ∀ x, r.1 = .inr x → x < 5 → ∀ (H1 : Heap) (locs1 : List Loc) (q : Addr) (ce : Cell), sx_Rep D (sx_ad b sa base) cA base r.2 H1 → va_S (sx_A base) s.heap H1 locs1 → H1[q]? = some ce → ce.vm = .none → s.vm.findClass (sx_en x) = some ce.cls →
      vx_W p l e R s m args below meth c H1 locs1 (cells + (r.2.1.length - h.1.length)) (slots + (r.2.2 - h.2)) Q (F0 m pc ls (st1.map (sx_cv (sx_ad b sa base)))) q)
    (kk : ∀ v, r.1 = .inl v → sx_At p l e R s m args below meth c Q k D cA b sa base (cells + (r.2.1.length - h.1.length)) (slots + (r.2.2 - h.2)) (pc + 3) sls (v.toList ++ st1) r.2) :
    W p l e R s m args below meth c H locs cells slots Q (F0 m pc ls st0) := by
  have keep : ∀ (T' t st₀ : State) (L : List Loc), st₀.heap = H → T'.heap = t.heap → sx_Rep D (sx_ad b sa base) cA base r.2 t.heap → (∀ q : Nat, q < base → t.heap[q]? = st₀.heap[q]?) → (∀ z ∈ L, sx_A base z.base) → va_S (sx_A base) s.heap T'.heap (locs ++ L) := by
    intro T' t st₀ L h0 e1 hR1 hq hL1
    refine ⟨?_, fun q h1 h2 => ?_, fun z hz => ?_⟩
    · rw [e1, hR1.1]
      have := hS.1
      rw [hR.1] at this
      have := hle.1
      omega
    · rw [e1, hq q (Nat.lt_of_not_le h2), h0]
      exact hS.2.1 q h1 h2
    · rcases List.mem_append.mp hz with h1 | h1
      · exact hS.2.2 z h1
      · exact hL1 z h1
  intro T hT X
  rcases hr T hT X with ⟨v, st₀, t, T', L, h0, X', hL1, e1, e2, ⟨v', hv, ho, hR1, hq⟩, st⟩ | ⟨q, st₀, t, T', L, E, ce, h0, X', hL1, e1, e2, ⟨x, hx5, hx, rfl, hR1, hq⟩, hce, hcv, hcl, st⟩
  · have hv2 : v = v'.map (sx_cv (sx_ad b sa base)) := by injection ho
    have hst : v.toList ++ st1.map (sx_cv (sx_ad b sa base)) = (v'.toList ++ st1).map (sx_cv (sx_ad b sa base)) := by
      rw [hv2, List.map_append]
      cases v' <;> rfl
    obtain ⟨t2, a1, b1⟩ := kk v' hv T'.heap (locs ++ L) ls hL (by rw [e1]; exact hR1) (keep T' t st₀ L h0 e1 hR1 hq hL1) T' rfl X'
    rw [← hst] at a1
    exact ⟨t2, st t2 a1, b1⟩
  · obtain ⟨t2, a1, b1⟩ := kx x hx hx5 T'.heap (locs ++ L) q ce (by rw [e1]; exact hR1) (keep T' t st₀ L h0 e1 hR1 hq hL1) (by rw [e1]; exact hce) hcv hcl T' rfl X'
    exact ⟨t2, st.trans a1, b1⟩
theorem sx_map_take {g : Nat → Nat} {st : List Value} {n : Nat} : st.map (sx_cv g) = (((st.take n).reverse).map (sx_cv g)).reverse ++ (st.drop n).map (sx_cv g) := by
  rw [← List.map_reverse, List.reverse_reverse, ← List.map_append, List.take_append_drop]
theorem sx_map_take1 {g : Nat → Nat} {st as : List Value} {n a : Nat} (h : (st.take n).reverse = .ref a :: as) : st.map (sx_cv g) = (as.map (sx_cv g)).reverse ++ .ref (g a) :: (st.drop n).map (sx_cv g) := by
  rw [sx_map_take (n := n), h]
  simp [sx_cv]
theorem sx_restsum {g : Nat → Nat} {pc : Nat} {ls : Array Slot} {st0 st : List Value} {n : Nat} {m : MethodId} (h1 : st.length ≤ n + 8) (h2 : (st.drop n).all sx_cat = true) : 2 * (F0 m pc ls st0).monitorRoom + (((st.drop n).map (sx_cv g)).map fun v => v.category).sum ≤ 8 := by
  rw [sx_catsum h2, List.length_drop]
  show 2 * 0 + _ ≤ 8
  omega
set_option maxHeartbeats 4000000 in
theorem sx_call (C : sx_Ctx p l R s m args meth c k D cA b sa sv base S) {pc pc1 len cells slots j : Nat} {i : Instr} {sls sls1 : sx_L} {st st1 as : List Value} {h h1 : sx_H} {r : sx_R} (hc : sx_code k pc = some (i, len)) (hs : sx_step S k i len pc sls st h = some (.inr (.inr (j, as, (pc1, sls1, st1), h1))))
    (hM : sx_Con l D cA b sa sv base S j as h r) (hle : sx_le h r.2) (hcl : cells + (r.2.1.length - h.1.length) ≤ R.cells) (hsl : slots + (r.2.2 - h.2) ≤ R.slots)
    (kx : ∀ x, r.1 = .inr x → x < 5 → ∀ (H1 : Heap) (locs1 : List Loc) (ls : Array Slot) (q : Addr) (ce : Cell), sx_LR (sx_ad b sa base) (sx_ml k) sls ls → sx_Rep D (sx_ad b sa base) cA base r.2 H1 → va_S (sx_A base) s.heap H1 locs1 → H1[q]? = some ce → ce.vm = .none → s.vm.findClass (sx_en x) = some ce.cls →
      vx_W p l e R s m args below meth c H1 locs1 (cells + (r.2.1.length - h.1.length)) (slots + (r.2.2 - h.2)) Q (F0 m pc ls (st1.map (sx_cv (sx_ad b sa base)))) q)
    (kk : ∀ v, r.1 = .inl v → sx_At p l e R s m args below meth c Q k D cA b sa base (cells + (r.2.1.length - h.1.length)) (slots + (r.2.2 - h.2)) (pc + 3) sls (v.toList ++ st1) r.2) :
    sx_At p l e R s m args below meth c Q k D cA b sa base cells slots pc sls st h := by
  intro H locs ls hL hR hS
  have hd := sx_decl hc
  have hlen := sx_len hc
  obtain ⟨hx, hb, hrt, hlk, hml, hown, hini, htab, hts, hE, hfr, hlo, htr⟩ := id C
  obtain ⟨hK, ⟨hX, hbb, hbs⟩, hNB, -⟩ := id hE
  have hfix : CallFix p m c (sx_b k) (sx_ml k) s args sx_W (sx_cn (sx_own k)) := ⟨hx, hb, hml, hown, hts⟩
  have hpre : ∀ U : State, U.heap = H → s.WarmedH U.vm → sx_Env D cA b sa sv base S U ∧ sx_Rep D (sx_ad b sa base) cA base h U.heap := by
    intro U hU hW
    refine ⟨hE.moved hW (by rw [hU, hR.1]; omega) (fun q hq => ?_), by rw [hU]; exact hR⟩
    rw [hU]
    exact hS.2.1 q (Nat.lt_of_lt_of_le hq hbs) (Nat.not_le.mpr hq)
  cases i
  case invokevirtual idx =>
    dsimp only [sx_step, sx_callV] at hs
    split at hs
    · rename_i j0 z1 z2 hp
      split at hs
      · rename_i hn
        obtain ⟨n1, n2, n3⟩ := hn
        split at hs
        · rename_i a as0 hta
          split at hs
          · rename_i ci fs ho
            split at hs
            · rename_i hci
              unfold sx_ca at hs
              simp only [Option.some.injEq, Sum.inr.injEq, Prod.mk.injEq] at hs
              obtain ⟨rfl, rfl, ⟨rfl, rfl, rfl⟩, rfl⟩ := hs
              have h9 := sx_pool_ok hp
              simp only [sx_okP, Bool.and_eq_true, decide_eq_true_eq, Bool.not_eq_true'] at h9
              obtain ⟨⟨⟨⟨⟨hj1, q1⟩, q2⟩, q3⟩, q4⟩, q5⟩ := h9
              obtain ⟨f1, f2, f3, f4, f5, f6, f7, f8, f9, f10, f11, f12, f13⟩ := sx_mfacts hj1
              have hrm := sx_call_room hc (Or.inl rfl)
              unfold sx_okJ at hrm
              rw [hp] at hrm
              simp only [Bool.and_eq_true, decide_eq_true_eq] at hrm
              have hcb := callB_of (R := R) (own := sx_cn (sx_own k)) (index := idx) (rm := sx_rm j0 (r.2.1.length - h.1.length) (r.2.2 - h.2)) (sx_np j0 - 1) hts (sx_goodW (sx_ws_in hj1)) (sx_hd_code q3) rfl rfl (hts _ f2) (hts _ (sx_inW q5 rfl)) ⟨f7.1, f7.2, by rw [f6, if_neg (by rw [q1]; decide)]⟩ (by show sx_fr j0 + 1 ≤ _ ∧ 8 + (sx_ml j0 + 11) + sx_lo j0 ≤ _; omega)
              obtain ⟨hat, -⟩ := hR.at (sx_obj_some ho)
              have hci7 : ci < 7 := by omega
              have hrv := va_recv (q0 := 0) (fs := fs.map (sx_cv (sx_ad b sa base))) hK (sx_sing hat) (sx_vw ci hci7) rfl
              have hRN : sx_RN ci = (sx_y j0).cls := by rw [f10]; exact sx_cx_own (by omega) hci
              have has : as0.length = sx_np j0 - 1 := by
                have := congrArg List.length hta
                simp at this
                omega
              refine sx_after hL hR hS hbs hle (vx_runV hfix hM ⟨hcb, hts _ (f4 q1), hts _ (f5 q1 q2)⟩ ⟨sx_blind, (by
                  obtain ⟨cell, c1, c2, c3⟩ := hrv
                  exact ⟨cell, c1, c2, by rw [← hRN]; exact c3⟩), fun U hU hW => ⟨rfl, hpre U hU hW⟩⟩ rfl (by rw [List.length_map]; exact has) hL.2.2.1 (sx_map_take1 hta) (sx_restsum n2 n3) hd ⟨hcl, hsl⟩) (fun x hx5 h5 H1 locs1 q ce => kx x hx5 h5 H1 locs1 ls q ce hL) kk
            · cases hs
          · cases hs
        · cases hs
      · cases hs
    · split at hs
      · split at hs
        · cases hs
        · split at hs
          · cases hs
          · cases hs
      · cases hs
    · cases hs
  case invokestatic idx =>
    dsimp only [sx_step, sx_callS] at hs
    split at hs
    · rename_i t j0 z1 z2 hp
      split at hs
      · rename_i hn
        obtain ⟨ht, n1, n2, n3⟩ := hn
        unfold sx_ca at hs
        simp only [Option.some.injEq, Sum.inr.injEq, Prod.mk.injEq] at hs
        obtain ⟨rfl, rfl, ⟨rfl, rfl, rfl⟩, rfl⟩ := hs
        have h9 := sx_pool_ok hp
        have hrm := sx_call_room hc (Or.inr rfl)
        unfold sx_okJ at hrm
        rw [hp] at hrm
        have hlen2 : ((st.take (sx_np j0)).reverse).length = sx_np j0 := by simp; omega
        rcases ht with rfl | rfl
        · simp only [sx_okP, Bool.and_eq_true, decide_eq_true_eq] at h9
          obtain ⟨⟨⟨hj1, q1⟩, q3⟩, q5⟩ := h9
          simp only [Bool.and_eq_true, decide_eq_true_eq] at hrm
          obtain ⟨f1, f2, f3, f4, f5, f6, f7, f8, f9, f10, f11, f12, f13⟩ := sx_mfacts hj1
          have hcb := callB_of (R := R) (own := sx_cn (sx_own k)) (index := idx) (rm := sx_rm j0 (r.2.1.length - h.1.length) (r.2.2 - h.2)) (sx_np j0) hts (sx_goodW (sx_ws_in hj1)) (sx_hd_code q3) rfl rfl (hts _ f2) (hts _ (sx_inW q5 rfl)) ⟨f7.1, f7.2, by rw [f6, if_pos q1]⟩ (by show sx_fr j0 + 1 ≤ _ ∧ 8 + (sx_ml j0 + 11) + sx_lo j0 ≤ _; omega)
          exact sx_after hL hR hS hbs hle (vx_runS hfix hM ⟨hcb, hts _ (f3 q1)⟩ ⟨sx_blind, fun U hU hW => ⟨rfl, hpre U hU hW⟩⟩ rfl (by rw [List.length_map]; exact hlen2) hL.2.2.1 sx_map_take (sx_restsum n2 n3) hd ⟨hcl, hsl⟩) (fun x hx5 h5 H1 locs1 q ce => kx x hx5 h5 H1 locs1 ls q ce hL) kk
        · simp only [sx_okP, Bool.and_eq_true, decide_eq_true_eq, Bool.not_eq_true', decide_eq_false_iff_not] at h9
          obtain ⟨⟨⟨hj1, q1⟩, q3⟩, q5⟩ := h9
          simp only [Bool.and_eq_true, decide_eq_true_eq] at hrm
          obtain ⟨f1, f2, f3, f4, f5, f6, f7, f8, f9, f10, f11, f12, f13⟩ := sx_mfacts hj1
          have hcb : vx_CSW R s args (sx_cn (sx_own k)) idx (sx_y j0) (sx_b j0) (sx_ml j0) (sx_rt j0) (sx_hh j0) (sx_ws j0) (sx_rm j0 (r.2.1.length - h.1.length) (r.2.2 - h.2)) (r.2.1.length - h.1.length) (r.2.2 - h.2) (sx_np j0) := by
            refine vx_cwSW (sx_np j0) hts (sx_goodW fun w hw => ?_) (sx_hd_with q3) rfl rfl ⟨f7.1, f7.2, by rw [f6, if_pos q1]⟩ (by show sx_fr j0 + 1 ≤ _ ∧ 8 + (sx_ml j0 + 11) + sx_lo j0 ≤ _; omega)
            unfold va_wsS at hw
            rcases List.mem_append.mp hw with hw | hw
            · simp only [List.mem_cons, List.not_mem_nil, or_false] at hw
              rcases hw with rfl | rfl | rfl
              · exact sx_inW q5 rfl
              · exact f3 q1
              · exact f2
            · exact sx_ws_in hj1 w hw
          exact sx_after hL hR hS hbs hle (vx_runSX hfix hM hcb ⟨sx_blind, fun U hU hW => ⟨rfl, hpre U hU hW⟩⟩ rfl (by rw [List.length_map]; exact hlen2) hL.2.2.1 sx_map_take (sx_restsum n2 n3) hd ⟨hcl, hsl⟩) (fun x hx5 h5 H1 locs1 q ce => kx x hx5 h5 H1 locs1 ls q ce hL) kk
      · cases hs
    · cases hs
  case invokespecial idx =>
    dsimp only [sx_step, sx_callI] at hs
    split at hs
    · split at hs
      · split at hs
        · cases hs
        · cases hs
      · cases hs
    · rename_i t j0 z1 z2 hne hp
      split at hs
      · rename_i hn
        obtain ⟨ht, n1, n2, n3⟩ := hn
        split at hs
        · rename_i a as0 hta
          unfold sx_ca at hs
          simp only [Option.some.injEq, Sum.inr.injEq, Prod.mk.injEq] at hs
          obtain ⟨rfl, rfl, ⟨rfl, rfl, rfl⟩, rfl⟩ := hs
          have h9 := sx_pool_ok hp
          have hrm := sx_call_roomI hc hp
          unfold sx_okJ at hrm
          rw [hp] at hrm
          have hlen2 : as0.length = sx_np j0 - 1 := by
            have := congrArg List.length hta
            simp at this
            omega
          rcases ht with rfl | rfl
          · simp only [sx_okP, Bool.and_eq_true, decide_eq_true_eq, Bool.not_eq_true'] at h9
            obtain ⟨⟨⟨⟨hj1, q1⟩, q2⟩, q3⟩, q5⟩ := h9
            simp only [Bool.and_eq_true, decide_eq_true_eq] at hrm
            obtain ⟨f1, f2, f3, f4, f5, f6, f7, f8, f9, f10, f11, f12, f13⟩ := sx_mfacts hj1
            have hcb := callB_of (R := R) (own := sx_cn (sx_own k)) (index := idx) (rm := sx_rm j0 (r.2.1.length - h.1.length) (r.2.2 - h.2)) (sx_np j0 - 1) hts (sx_goodW (sx_ws_in hj1)) (sx_hd_code q3) rfl rfl (hts _ f2) (hts _ (sx_inW q5 rfl)) ⟨f7.1, f7.2, by rw [f6, if_neg (by rw [q1]; decide)]⟩ (by show sx_fr j0 + 1 ≤ _ ∧ 8 + (sx_ml j0 + 11) + sx_lo j0 ≤ _; omega)
            rw [f12 q2] at hcb
            exact sx_after hL hR hS hbs hle (vx_runI hfix hM ⟨hcb, of_decide_eq_true (f11 ▸ q2), hts _ (f4 q1)⟩ ⟨sx_blind, fun U hU hW => ⟨rfl, hpre U hU hW⟩⟩ rfl (by rw [List.length_map]; exact hlen2) hL.2.2.1 (sx_map_take1 hta) (sx_restsum n2 n3) hd ⟨hcl, hsl⟩) (fun x hx5 h5 H1 locs1 q ce => kx x hx5 h5 H1 locs1 ls q ce hL) kk
          · simp only [sx_okP, Bool.and_eq_true, decide_eq_true_eq, Bool.not_eq_true'] at h9
            obtain ⟨⟨⟨⟨hj1, q1⟩, q2⟩, q3⟩, q5⟩ := h9
            simp only [Bool.and_eq_true, decide_eq_true_eq] at hrm
            obtain ⟨f1, f2, f3, f4, f5, f6, f7, f8, f9, f10, f11, f12, f13⟩ := sx_mfacts hj1
            have hcb := va_cnB (R := R) (own := sx_cn (sx_own k)) (index := idx) (rm := sx_rm j0 (r.2.1.length - h.1.length) (r.2.2 - h.2)) (sx_np j0 - 1) hts (sx_goodW (sx_ws_in hj1)) (sx_hd_code q3) rfl rfl (hNB _ (sx_inNB q5 rfl)) (hts _ f2) ⟨f7.1, f7.2, by rw [f6, if_neg (by rw [q1]; decide)]⟩ (by show sx_fr j0 + 1 ≤ _ ∧ 8 + (sx_ml j0 + 11) + sx_lo j0 ≤ _; omega)
            rw [f12 q2] at hcb
            exact sx_after hL hR hS hbs hle (vx_runIN hfix hM ⟨hcb, of_decide_eq_true (f11 ▸ q2), hts _ (f4 q1)⟩ ⟨sx_blind, fun U hU hW => ⟨rfl, hpre U hU hW⟩⟩ rfl (by rw [List.length_map]; exact hlen2) hL.2.2.1 (sx_map_take1 hta) (sx_restsum n2 n3) hd ⟨hcl, hsl⟩) (fun x hx5 h5 H1 locs1 q ce => kx x hx5 h5 H1 locs1 ls q ce hL) kk
        · cases hs
      · cases hs
    · cases hs
  case' ifCond cd off => cases cd
  case' if_icmp cd off => cases cd
  case' newarray t9 => cases t9
  all_goals exfalso
  all_goals dsimp only [sx_step, sx_i1, sx_i2, sx_br, sx_jump, sx_nx, sx_dn] at hs
  all_goals (repeat' (split at hs))
  all_goals cases hs
end SXM
