/-! THE ENDS of an activation, the exceptions' ways, and the induction -/
theorem sx_nb_use {w : Cond} {args : Array Value} {s : State} (g : sx_nb w = true) (h : va_Nw w s) : w.before args s = true := by
  cases w <;> first
    | exact va_Nw.use rfl h
    | cases g
theorem sx_hhok : ∀ hh ∈ sx_hhL, ∀ q ∈ hh, q.2.2.2 ≠ 0 ∧ sx_cc q.2.2.2 < 5 ∧ Cond.classLink RL q.2.2.2 (sx_en (sx_cc q.2.2.2)) ∈ lw_tbl := by decide +kernel
theorem sx_hhown : (List.range 122).all (fun k => decide (sx_hh k = [] ∨ sx_own k = 11)) = true := by decide +kernel
theorem sx_hh_in {k : Nat} {q : Nat × Nat × Nat × Nat} (h : q ∈ sx_hh k) : q.2.2.2 ≠ 0 ∧ sx_cc q.2.2.2 < 5 ∧ Cond.classLink RL q.2.2.2 (sx_en (sx_cc q.2.2.2)) ∈ sx_W := by
  have h1 : sx_hh k ∈ sx_hhL := by
    rcases sx_getD_or sx_hhL k [] with h2 | h2
    · exact h2
    · have h3 : sx_hh k = [] := h2
      rw [h3] at h
      cases h
  obtain ⟨a1, a2, a3⟩ := sx_hhok _ h1 _ h
  exact ⟨a1, a2, List.mem_filter.mpr ⟨a3, rfl⟩⟩
theorem sx_castW : ∀ x, x < 5 → Cond.castable (sx_en x) (sx_en x) ∈ sx_NB := by
  intro x hx
  refine List.mem_filter.mpr ⟨?_, rfl⟩
  match x, hx with
  | 0, _ => decide +kernel
  | 1, _ => decide +kernel
  | 2, _ => decide +kernel
  | 3, _ => decide +kernel
  | 4, _ => decide +kernel
  | x + 5, h => omega
section SXD
variable {l : Launch} {D : va_G} {cA : Nat → ClassId} {b sa sv base : Nat} {S : List Int32}
variable {p : Program} {e : Env} {R : Room} {s : State} {m : MethodId} {args : Array Value} {below : List Frame} {meth : Method} {c : Code} {Q : State → Prop} {k : Nat}
set_option maxHeartbeats 4000000 in
theorem sx_done (C : sx_Ctx p l R s m args meth c k D cA b sa sv base S) {pc len cells slots mc ms : Nat} {i : Instr} {sls : sx_L} {st : List Value} {h : sx_H} {r : sx_R} (hc : sx_code k pc = some (i, len)) (hs : sx_step S k i len pc sls st h = some (.inr (.inl r)))
    (hcl : cells + (r.2.1.length - h.1.length) ≤ mc) (hsl : slots + (r.2.2 - h.2) ≤ ms) (hmc : mc ≤ R.cells) (hms : ms ≤ R.slots) :
    sx_At p l e R s m args below meth c (vx_MQ below (sx_Qc D cA b sa base r) (sx_XC D cA b sa base r) args s mc ms (sx_A base)) k D cA b sa base cells slots pc sls st h := by
  intro H locs ls hL hR hS
  have hd := sx_decl hc
  have hlen := sx_len hc
  obtain ⟨hx, hb, hrt, hlk, hml, hown, hini, htab, hts, hE, hfr, hlo, htr⟩ := id C
  obtain ⟨hK, ⟨hX, hbb, hbs⟩, hNB, hO, ⟨hstr, hlpb⟩, ⟨hU, hN⟩, hrest⟩ := id hE
  have hold : ∀ q : Nat, q < base → H[q]? = s.heap[q]? := fun q hq => hS.2.1 q (Nat.lt_of_lt_of_le hq hbs) (Nat.not_le.mpr hq)
  cases i
  case ireturn =>
    dsimp only [sx_step] at hs
    split at hs
    · rename_i v
      split at hs
      · rename_i ty hty
        split at hs
        · rename_i hn
          unfold sx_dn at hs
          cases hs
          refine W.widen (by omega) (by omega) (vx_ret (W.zret hx hb (hrt.trans hty) hn (fun t ht hW => ⟨some (.int v), rfl, rfl, by rw [ht]; exact hR, fun q hq => by rw [ht]; exact hold q hq⟩) hS.2.2 hd hlk))
        · cases hs
      · cases hs
    · cases hs
  case areturn =>
    dsimp only [sx_step] at hs
    split at hs
    · rename_i v
      split at hs
      · rename_i nm hty
        split at hs
        · rename_i hn
          unfold sx_dn at hs
          cases hs
          refine W.widen (by omega) (by omega) (vx_ret (W.aret (v := sx_cv (sx_ad b sa base) v) hx hb (hrt.trans hty) (Or.inl ⟨_, rfl⟩) ?_ (fun t ht hW => ⟨some v, rfl, rfl, by rw [ht]; exact hR, fun q hq => by rw [ht]; exact hold q hq⟩) hS.2.2 hd hlk))
          cases v <;> first
            | exact Or.inl rfl
            | exact Or.inr ⟨_, rfl⟩
            | cases hn
        · cases hs
      · cases hs
    · cases hs
  case return_ =>
    dsimp only [sx_step] at hs
    split at hs
    · split at hs
      · rename_i hty
        unfold sx_dn at hs
        cases hs
        exact W.widen (by omega) (by omega) (vx_ret (W.vret hx hb (hrt.trans hty) (fun t ht hW => ⟨none, rfl, rfl, by rw [ht]; exact hR, fun q hq => by rw [ht]; exact hold q hq⟩) hS.2.2 hd hlk))
      · cases hs
    · cases hs
  case new idx =>
    dsimp only [sx_step] at hs
    split at hs
    · split at hs
      · cases hs
      · cases hs
    · rename_i a1 a2 a3 hp
      split at hs
      · rename_i ik is ic x w tx ht
        split at hs
        · rename_i hst
          unfold sx_dn at hs
          cases hs
          obtain ⟨h9, hmem⟩ := sx_thr_ok ht
          simp only [sx_okT, Bool.and_eq_true, decide_eq_true_eq] at h9
          obtain ⟨o1, o2, o3, o4, o5, o6, o7, o8, o9, o10⟩ := h9
          have hik : idx = ik := by
            have := hc.symm.trans o7
            simp at this
            exact this.1
          subst hik
          have h10 := sx_pool_ok hp
          simp only [sx_okP, Bool.and_eq_true, decide_eq_true_eq] at h10
          have hax : a1 = x := by
            rw [← o1] at o10
            rw [hp] at o10
            simp only [Option.bind_some] at o10
            split at o10
            · rename_i hh
              exact hh.2
            · cases o10
          subst hax
          obtain ⟨astr, hstr9⟩ := hstr _ hmem
          have hown10 : s.vm.findClass RX10 = some m.cls := by rw [o1] at hown; exact hown
          obtain ⟨x0, x1, x2, x5⟩ := sx_rxd a1 o3
          have hlink : (Cond.classLink RX10 idx (sx_en a1)).before args s = true := by
            have := hts _ (sx_inW h10.2 rfl)
            rw [o1] at this
            exact this
          have hat : ∀ w ∈ (sx_oax RX10 ic (sx_en a1) (sx_ix a1) (sx_rx a1) sx_xn).filter vx_no, w.before args s = true := by
            intro w hw
            rw [o4] at hw
            obtain ⟨b1, b2, -⟩ := sx_xw a1 o3 w hw
            cases g1 : goodWord w
            · rw [g1] at b2
              have g2 : sx_nb w = true := by simpa using b2
              exact sx_nb_use g2 (hNB _ (List.mem_filter.mpr ⟨b1, g2⟩))
            · exact hts _ (List.mem_filter.mpr ⟨b1, g1⟩)
          have hgood : ∀ w ∈ Cond.classLink RX10 idx (sx_en a1) :: Cond.initialized (sx_en a1) :: (sx_oax RX10 ic (sx_en a1) (sx_ix a1) (sx_rx a1) sx_xn).filter vx_no, vx_ot w = true := by
            intro w hw
            rcases List.mem_cons.mp hw with rfl | hw
            · rfl
            · rcases List.mem_cons.mp hw with rfl | hw
              · rfl
              · rw [o4] at hw
                exact (sx_xw a1 o3 w hw).2.2
          have hxx : ∀ t : State, s.vm.Alike t.vm → t.heap.size = H.size + 1 → (∀ q : Nat, q < H.size → t.heap[q]? = H[q]?) → sx_XC D cA b sa base (.inr a1, sx_push h none 6) (sx_en a1) s t := by
            intro t hv hz hq
            refine ⟨a1, o3, rfl, rfl, hR.push (fun x hx => nomatch hx) hz hq, fun q hqb => ?_⟩
            rw [hq q (by rw [hR.1]; omega)]
            exact hold q hqb
          have hz1 : (sx_push h none 6).1.length - h.1.length = 1 := by simp [sx_push]
          have hz2 : (sx_push h none 6).2 - h.2 = 6 := by simp [sx_push]
          dsimp only at hcl hsl
          rw [hz1] at hcl
          rw [hz2] at hsl
          have hempty : ∀ z ∈ c.exceptionTable.toList, False := by
            rw [htab, o2]
            intro z hz
            cases hz
          have hrl : ((st.map (sx_cv (sx_ad b sa base))).map fun v => v.category).sum + (13 * (sx_xn.length + 1) + 43) ≤ R.locals := by
            rw [sx_catsum hst.2]
            show st.length + (13 * (2 + 1) + 43) ≤ R.locals
            have := hst.1
            omega
          have hrf : sx_xn.length + 3 < R.frames := by
            show 2 + 3 < R.frames
            omega
          have e3 : (3 : Nat) = sx_ln (.new idx) := rfl
          cases w
          · simp only [if_neg (by decide : ¬ (false = true)), Bool.and_eq_true, decide_eq_true_eq] at o9
            exact sx_throwS hx hb htr x0 x1 x2 x5 hown10 (sx_xi a1 o3).2 (by decide +kernel) hlink (hts _ (List.mem_filter.mpr ⟨(sx_xi a1 o3).1, rfl⟩)) hstr9 hat hgood hU hN hS (by rw [hml]; exact hL.2.2.1) (sx_dec o7) (sx_dec o8) (sx_dec o9.1) (sx_dec o9.2.1) (sx_dec o9.2.2)
              (fun z hz => absurd hz (hempty z)) hrf hrl (by omega) (by omega) hlk hxx hS.2.2 hcl hsl
          · simp only [if_true, Bool.and_eq_true, decide_eq_true_eq] at o9
            exact sx_throwSW hx hb htr x0 x1 x2 x5 hown10 (sx_xi a1 o3).2 (by decide +kernel) hlink (hts _ (List.mem_filter.mpr ⟨(sx_xi a1 o3).1, rfl⟩)) hstr9 hat hgood hU hN hS (by rw [hml]; exact hL.2.2.1) (sx_dec o7) (sx_dec o8) (sx_dec o9.1) (sx_dec o9.2.1) (sx_dec o9.2.2)
              (fun z hz => absurd hz (hempty z)) hrf hrl (by omega) (by omega) hlk hxx hS.2.2 hcl hsl
        · cases hs
      · cases hs
    · cases hs
  case' ifCond cd off => cases cd
  case' if_icmp cd off => cases cd
  case' newarray t9 => cases t9
  all_goals exfalso
  all_goals dsimp only [sx_step, sx_i1, sx_i2, sx_br, sx_jump, sx_callV, sx_callS, sx_callI, sx_nx, sx_ca] at hs
  all_goals (repeat' (split at hs))
  all_goals cases hs
theorem sx_cov (q : Nat × Nat × Nat × Nat) (pc : Nat) : covers ⟨q.1, q.2.1, q.2.2.1, q.2.2.2⟩ pc = (decide (q.1 ≤ pc) && decide (pc < q.2.1)) := rfl
/-- a handler that is passed over -/
theorem sx_pass (C : sx_Ctx p l R s m args meth c k D cA b sa sv base S) {pc x : Nat} (hx5 : x < 5) {q : Nat × Nat × Nat × Nat} (hq : q ∈ sx_hh k) (hn : (decide (q.1 ≤ pc) && decide (pc < q.2.1) && sx_cc q.2.2.2 == x) = false) :
    covers ⟨q.1, q.2.1, q.2.2.1, q.2.2.2⟩ pc = false ∨ (q.2.2.2 ≠ 0 ∧ ∃ nm : String, (Cond.classLink (sx_cn (sx_own k)) q.2.2.2 nm).before args s = true ∧ va_Nc (sx_en x) nm s) := by
  obtain ⟨hx, hb, hrt, hlk, hml, hown, hini, htab, hts, hE, -⟩ := id C
  obtain ⟨-, -, -, -, -, -, hnc, -⟩ := id hE
  obtain ⟨a1, a2, a3⟩ := sx_hh_in hq
  cases hcv : (decide (q.1 ≤ pc) && decide (pc < q.2.1))
  · exact Or.inl hcv
  · rw [hcv, Bool.true_and] at hn
    have hne : sx_cc q.2.2.2 ≠ x := fun e => by rw [e] at hn; simp at hn
    have hk : k < 122 := by
      rcases Nat.lt_or_ge k 122 with g | g
      · exact g
      · exfalso
        have : sx_hh k = [] := by
          unfold sx_hh
          rw [List.getD_eq_getElem?_getD, List.getElem?_eq_none (by show 122 ≤ k; exact g)]
          rfl
        rw [this] at hq
        cases hq
    have ho : sx_own k = 11 := by
      have h1 := of_decide_eq_true (List.all_eq_true.mp sx_hhown k (List.mem_range.mpr hk))
      rcases h1 with h1 | h1
      · rw [h1] at hq; cases hq
      · exact h1
    refine Or.inr ⟨a1, _, ?_, hnc x (sx_cc q.2.2.2) hx5 a2 (Ne.symm hne)⟩
    rw [ho]
    exact hts _ a3
/-- an exception that comes back out of a call -/
theorem sx_exc (C : sx_Ctx p l R s m args meth c k D cA b sa sv base S) {pc cells slots mc ms x : Nat} {sls : sx_L} {st : List Value} {h : sx_H} {H : Heap} {locs : List Loc} {ls : Array Slot} {q : Addr} {ce : Cell} (hx5 : x < 5) (hL : sx_LR (sx_ad b sa base) (sx_ml k) sls ls) (hR : sx_Rep D (sx_ad b sa base) cA base h H) (hS : va_S (sx_A base) s.heap H locs) (hce : H[q]? = some ce) (hcv : ce.vm = .none) (hcl : s.vm.findClass (sx_en x) = some ce.cls)
    (r : sx_R) (hcm : cells ≤ mc) (hsm : slots ≤ ms)
    (hno : sx_hand k pc x = none → r = (.inr x, h))
    (hyes : ∀ hp pc1 j, sx_hand k pc x = some hp → sx_caught k hp = some (pc1, j) → j < sls.length → sx_At p l e R s m args below meth c (vx_MQ below (sx_Qc D cA b sa base r) (sx_XC D cA b sa base r) args s mc ms (sx_A base)) k D cA b sa base cells slots pc1 (sls.set j none) [] h)
    (hcau : ∀ hp, sx_hand k pc x = some hp → ∃ pc1 j, sx_caught k hp = some (pc1, j) ∧ j < sls.length) :
    vx_W p l e R s m args below meth c H locs cells slots (vx_MQ below (sx_Qc D cA b sa base r) (sx_XC D cA b sa base r) args s mc ms (sx_A base)) (F0 m pc ls (st.map (sx_cv (sx_ad b sa base)))) q := by
  obtain ⟨hx, hb, hrt, hlk, hml, hown, hini, htab, hts, hE, hfr, hlo, htr⟩ := id C
  obtain ⟨hK, ⟨hX, hbb, hbs⟩, hNB, -⟩ := id hE
  have hold : ∀ q : Nat, q < base → H[q]? = s.heap[q]? := fun q hq => hS.2.1 q (Nat.lt_of_lt_of_le hq hbs) (Nat.not_le.mpr hq)
  cases hh : sx_hand k pc x with
  | none =>
    have hr := hno hh
    subst hr
    have hnone : ∀ z ∈ sx_hh k, (decide (z.1 ≤ pc) && decide (pc < z.2.1) && sx_cc z.2.2.2 == x) = false := by
      unfold sx_hand at hh
      have h1 := Option.map_eq_none_iff.mp hh
      intro z hz
      have := List.find?_eq_none.mp h1 z hz
      simpa using this
    refine vx_outP hown hlk (fun z hz => ?_) hce hcv hcl (fun t ht hv => ⟨x, hx5, rfl, rfl, by rw [ht]; exact hR, fun q hq => by rw [ht]; exact hold q hq⟩) hS.2.2 hcm hsm
    rw [htab] at hz
    obtain ⟨z0, hz0, rfl⟩ := List.mem_map.mp hz
    exact sx_pass C hx5 hz0 (hnone z0 hz0)
  | some hp =>
    obtain ⟨pc1, j, hca, hj⟩ := hcau hp hh
    have K := hyes hp pc1 j hh hca hj
    unfold sx_hand at hh
    obtain ⟨z, hz, rfl⟩ := Option.map_eq_some_iff.mp hh
    obtain ⟨hz1, pre, suf, hsplit, hpre⟩ := List.find?_eq_some_iff_append.mp hz
    simp only [Bool.and_eq_true, decide_eq_true_eq, beq_iff_eq] at hz1
    have hzm : z ∈ sx_hh k := by rw [hsplit]; simp
    obtain ⟨a1, a2, a3⟩ := sx_hh_in hzm
    have hk : k < 122 := by
      rcases Nat.lt_or_ge k 122 with g | g
      · exact g
      · exfalso
        have : sx_hh k = [] := by
          unfold sx_hh
          rw [List.getD_eq_getElem?_getD, List.getElem?_eq_none (by show 122 ≤ k; exact g)]
          rfl
        rw [this] at hzm
        cases hzm
    have ho : sx_own k = 11 := by
      have h1 := of_decide_eq_true (List.all_eq_true.mp sx_hhown k (List.mem_range.mpr hk))
      rcases h1 with h1 | h1
      · rw [h1] at hzm; cases hzm
      · exact h1
    refine vx_catch (name := sx_en x) hown (tableOf pre) ⟨z.1, z.2.1, z.2.2.1, z.2.2.2⟩ (tableOf suf) (by rw [htab, hsplit]; simp [tableOf]) (fun y hy => ?_) (by rw [sx_cov]; simp [hz1.1]) a1 (by
      have := hts _ a3
      rw [hz1.2] at this
      rw [ho]
      exact this) (va_Nw.use rfl (hNB _ (sx_castW x hx5))) hce hcv hcl ?_
    · obtain ⟨y0, hy0, rfl⟩ := List.mem_map.mp hy
      refine sx_pass C hx5 (by rw [hsplit]; exact List.mem_append_left _ hy0) ?_
      have := hpre y0 hy0
      rw [Bool.not_eq_true'] at this
      exact this
    · unfold sx_caught at hca
      split at hca
      · rename_i j0 n0 hc0
        simp only [Option.some.injEq, Prod.mk.injEq] at hca
        obtain ⟨rfl, rfl⟩ := hca
        have hl0 := sx_len hc0
        have hd0 := sx_decl hc0
        subst hl0
        exact lv_astore hx hb hd0 hL.2.2 (by rw [← hL.1]; exact hj) rfl (fun ls' hl' => K H locs ls' (hL.forget hl') hR hS)
      · rename_i j0 n0 hc0
        simp only [Option.some.injEq, Prod.mk.injEq] at hca
        obtain ⟨rfl, rfl⟩ := hca
        have hl0 := sx_len hc0
        have hd0 := sx_decl hc0
        subst hl0
        exact lv_astore_n hx hb hd0 rfl hL.2.2 (by rw [← hL.1]; exact hj) rfl (fun ls' hl' => K H locs ls' (hL.forget hl') hR hS)
      · cases hca
/-- charAt on the text "lpb" -/
def sx_Chr (l : Launch) (D : va_G) (cA : Nat → ClassId) (b sa sv base : Nat) (S : List Int32) : Prop := ∀ x : Int32, ¬ (x < 0 ∨ 3 ≤ x.toNatClampNeg) →
  Met l yJ0_charAt_5068e (.code yJ0_charAt_5068e cJ0_charAt_5068e 2 (some .char) :: sx_W) { frames := 3, cells := 0, slots := 0, locals := 200 } (va_Pc [.ref sa, .int x] (fun U => sx_Env D cA b sa sv base S U))
    (fun _ st o t => o = .returned (some (.int ([108, 112, 98].getD x.toNatClampNeg 0))) ∧ t.heap = st.heap) 0 0 (sx_A base)
theorem sx_chw : Cond.instanceMethod yJ0_charAt_5068e ∈ lw_tbl ∧ Cond.selects RJ0 yJ0_charAt_5068e yJ0_charAt_5068e ∈ lw_tbl ∧ Cond.initialized RJ0 ∈ lw_tbl ∧ Cond.code yJ0_charAt_5068e cJ0_charAt_5068e 2 (some .char) ∈ lw_tbl := by decide +kernel
theorem sx_chr (C : sx_Ctx p l R s m args meth c k D cA b sa sv base S) (hcm : sx_Chr l D cA b sa sv base S) (pc : Nat) (sls : sx_L) (r : List Value) (h : sx_H) (idx : Nat) (x : Int32) (cells slots : Nat) (z : Nat × Nat × Nat) (hc : sx_code k pc = some (.invokevirtual idx, 3)) (hp : sx_pool (sx_own k) idx = some (10, z)) (hin : ¬ (x < 0 ∨ 3 ≤ x.toNatClampNeg)) (hr8 : r.length ≤ 8) (hrc : r.all sx_cat = true)
    (kk : sx_At p l e R s m args below meth c Q k D cA b sa base cells slots (pc + 3) sls (.int ([108, 112, 98].getD x.toNatClampNeg 0) :: r) h) (hcl : cells ≤ R.cells) (hsl : slots ≤ R.slots) : sx_At p l e R s m args below meth c Q k D cA b sa base cells slots pc sls (.int x :: .ref 1 :: r) h := by
  intro H locs ls hL hR hS
  have hd := sx_decl hc
  obtain ⟨hx, hb, hrt, hlk, hml, hown, hini, htab, hts, hE, hfr, hlo, htr⟩ := id C
  obtain ⟨hK, ⟨hX, hbb, hbs⟩, hNB, -, -, -, -, hvS, -⟩ := id hE
  obtain ⟨w1, w2, w3, w4⟩ := sx_chw
  have inW : ∀ {w : Cond}, w ∈ lw_tbl → goodWord w = true → w ∈ sx_W := fun h1 h2 => List.mem_filter.mpr ⟨h1, h2⟩
  have h9 := sx_pool_ok hp
  obtain ⟨z1, z2, z3⟩ := z
  simp only [sx_okP, decide_eq_true_eq] at h9
  have hrm := sx_call_room hc (Or.inl rfl)
  unfold sx_okJ at hrm
  rw [hp] at hrm
  simp only [Bool.and_eq_true, decide_eq_true_eq] at hrm
  have hcb := callB_of (R := R) (own := sx_cn (sx_own k)) (index := idx) (mc := 0) (ms := 0) (rm := { frames := 3, cells := 0, slots := 0, locals := 200 }) 1 hts (sx_goodW (ws := .code yJ0_charAt_5068e cJ0_charAt_5068e 2 (some .char) :: sx_W) (fun w hw => (List.mem_cons.mp hw).elim (fun e => by rw [e]; exact inW w4 rfl) id)) rfl rfl rfl (hts _ (inW w3 rfl)) (hts _ (sx_inW h9 rfl))
    (by decide +kernel) (by show 3 + 1 ≤ _ ∧ 8 + (2 + 11) + 200 ≤ _; omega)
  intro T hT X
  obtain ⟨v, st₀, t, T', L, h0, X', hL1, e1, e2, ⟨ho, hh⟩, st⟩ := va_runV (As := [.int x]) (rest := r.map (sx_cv (sx_ad b sa base))) (C := RJ0) ⟨hx, hb, hml, hown, hts⟩ (hcm x hin) ⟨hcb, hts _ (inW w1 rfl), hts _ (inW w2 rfl)⟩
    ⟨fun a U g mk q => ⟨q.1, q.2.moved (s := U) (U := U.calling g mk a) (State.WarmedH.refl U) q.2.2.1.2.2 (fun _ _ => rfl)⟩, vk_recv hvS (i := 0) (by omega) hS, fun U hU hW => ⟨rfl, hE.moved hW (by rw [hU, hR.1]; omega) (fun q hq => by
      rw [hU]
      exact hS.2.1 q (Nat.lt_of_lt_of_le hq hbs) (Nat.not_le.mpr hq))⟩⟩ (g := F0 m pc ls ((Value.int x :: Value.ref 1 :: r).map (sx_cv (sx_ad b sa base)))) rfl rfl hL.2.2.1 rfl (by
      rw [sx_catsum hrc]
      show 2 * 0 + r.length ≤ 8
      omega) hd ⟨by omega, by omega⟩ T hT X
  have hv : v = some (.int ([108, 112, 98].getD x.toNatClampNeg 0)) := by injection ho
  subst hv
  have hH : T'.heap = H := by rw [e1, hh, h0]
  obtain ⟨t2, a1, b1⟩ := kk H (locs ++ L) ls hL hR ⟨hS.1, hS.2.1, fun z hz => (List.mem_append.mp hz).elim (hS.2.2 z) (hL1 z)⟩ T' hH X'
  exact ⟨t2, st t2 a1, b1⟩
theorem sx_sim (hl : l.stackTraces = false) (hcm : sx_Chr l D cA b sa sv base S) : ∀ (n k : Nat) (F : sx_F) (h : sx_H) (r : sx_R), sx_run S n k F h = some r →
    ∀ {p : Program} {e : Env} {R : Room} {s : State} {m : MethodId} {args : Array Value} {below : List Frame} {meth : Method} {c : Code}, sx_Ctx p l R s m args meth c k D cA b sa sv base S →
      ∀ (cells slots mc ms : Nat), cells + (r.2.1.length - h.1.length) ≤ mc → slots + (r.2.2 - h.2) ≤ ms → mc ≤ R.cells → ms ≤ R.slots →
        sx_At p l e R s m args below meth c (vx_MQ below (sx_Qc D cA b sa base r) (sx_XC D cA b sa base r) args s mc ms (sx_A base)) k D cA b sa base cells slots F.1 F.2.1 F.2.2 h := by
  intro n
  induction n with
  | zero => intro k F h r hr; cases hr
  | succ n ih =>
    intro k F h r hr p e R s m args below meth c C cells slots mc ms hcl hsl hmc hms
    rw [sx_run] at hr
    cases hc : sx_code k F.1 with
    | none => rw [hc] at hr; cases hr
    | some q =>
      obtain ⟨i, len⟩ := q
      rw [hc] at hr
      dsimp only at hr
      cases hs : sx_step S k i len F.1 F.2.1 F.2.2 h with
      | none => rw [hs] at hr; cases hr
      | some o =>
        rw [hs] at hr
        have hm := sx_step_mo hs
        obtain ⟨F1, h1⟩ | r1 | ⟨j, as, F1, h1⟩ := o
        · have h2 := sx_run_mo S _ _ _ _ _ hr
          have hm : sx_le h h1 := hm
          have m1 := hm.1
          have m2 := hm.2
          have m3 := h2.1
          have m4 := h2.2
          obtain ⟨pc1, sls1, st1⟩ := F1
          exact sx_next C (sx_chr C hcm) hc hs (by omega) (by omega) (ih k (pc1, sls1, st1) h1 r hr C _ _ mc ms (by omega) (by omega) hmc hms)
        · cases hr
          exact sx_done C hc hs hcl hsl hmc hms
        · have hm : h1 = h := hm
          subst hm
          dsimp only at hr
          cases hg : sx_enter j as with
          | none => rw [hg] at hr; cases hr
          | some G =>
            rw [hg] at hr
            dsimp only at hr
            cases hr1 : sx_run S n j G h1 with
            | none => rw [hr1] at hr; cases hr
            | some r1 =>
              rw [hr1] at hr
              have hle := sx_run_mo S _ _ _ _ _ hr1
              obtain ⟨pc1, sls1, st1⟩ := F1
              have hfix : pc1 = F.1 ∧ sls1 = F.2.1 := sx_call_same hs
              obtain ⟨rfl, rfl⟩ := hfix
              have hj := sx_call_lt hs
              have hM : sx_Con l D cA b sa sv base S j as h1 r1 := sx_con_of hl hj hg (fun {p e R s m args below meth c} C hRc hRs => ih j G h1 r1 hr1 C 0 0 _ _ (by omega) (by omega) (by omega) (by omega))
              have hle2 : sx_le r1.2 r.2 := by
                obtain ⟨v | x, h2⟩ := r1
                · exact sx_run_mo S _ _ _ _ _ hr
                · dsimp only at hr
                  cases hh : sx_hand k F.1 x with
                  | none => rw [hh] at hr; cases hr; exact sx_le_refl _
                  | some q =>
                    rw [hh] at hr
                    dsimp only at hr
                    cases hq : sx_caught k q with
                    | none => rw [hq] at hr; cases hr
                    | some z =>
                      rw [hq] at hr
                      dsimp only at hr
                      split at hr
                      · exact sx_run_mo S _ _ _ _ _ hr
                      · cases hr
              have m1 := hle.1
              have m2 := hle.2
              have m3 := hle2.1
              have m4 := hle2.2
              refine sx_call C hc hs hM hle (by omega) (by omega) (fun x hx hx5 H1 locs1 ls q ce hL1 hR1 hS1 hce hcv hcl9 => ?_) (fun v hv => ?_)
              · obtain ⟨o1, h2⟩ := r1
                have hx : o1 = .inr x := hx
                subst hx
                dsimp only at hr m1 m2 m3 m4 hR1 ⊢
                refine sx_exc C hx5 hL1 hR1 hS1 hce hcv hcl9 r (by omega) (by omega) (fun hh => ?_) (fun hp pc2 jj hh hca hjl => ?_) (fun hp hh => ?_)
                · rw [hh] at hr
                  exact (Option.some.inj hr).symm
                · rw [hh] at hr
                  dsimp only at hr
                  rw [hca] at hr
                  dsimp only at hr
                  rw [if_pos hjl] at hr
                  exact ih k (pc2, F.2.1.set jj none, []) h2 r hr C _ _ mc ms (by omega) (by omega) hmc hms
                · rw [hh] at hr
                  dsimp only at hr
                  cases hq : sx_caught k hp with
                  | none => rw [hq] at hr; cases hr
                  | some z =>
                    rw [hq] at hr
                    dsimp only at hr
                    obtain ⟨z1, z2⟩ := z
                    split at hr
                    · rename_i hlt
                      exact ⟨z1, z2, rfl, hlt⟩
                    · cases hr
              · obtain ⟨o1, h2⟩ := r1
                have hv : o1 = .inl v := hv
                subst hv
                dsimp only at hr m1 m2 m3 m4 ⊢
                exact ih k (F.1 + 3, F.2.1, v.toList ++ st1) h2 r hr C _ _ mc ms (by omega) (by omega) hmc hms
end SXD
