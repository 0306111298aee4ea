/-! WORDS: what the tables say of the pool's entries, the methods, the throws; checked by their places -/
theorem sx_dec {k pc n : Nat} {i : Instr} (h : sx_code k pc = some (i, n)) : decode (sx_b k) pc = .ok (i, n) := by
  have h1 := List.all_eq_true.mp (sx_dec_all k) _ (sx_lookup_mem h)
  exact of_decide_eq_true h1
def sx_RN (c : Nat) : String := match c with
  | 0 => RX1
  | 1 => RX2
  | 2 => RX3
  | 3 => RX4
  | 4 => RX7
  | 5 => RX9
  | _ => RX10
def sx_nb (w : Cond) : Bool := match w with
  | .fieldLinkNest .. => true
  | .methodLinkNest .. => true
  | .declares _ => true
  | .castable .. => true
  | _ => false
def sx_W : List Cond := lw_tbl.filter goodWord
def sx_NB : List Cond := lw_tbl.filter sx_nb
theorem sx_inW {w : Cond} {p : Nat} (h : lw_tbl[p]? = some w) (g : goodWord w = true) : w ∈ sx_W := List.mem_filter.mpr ⟨List.mem_of_getElem? h, g⟩
theorem sx_inNB {w : Cond} {p : Nat} (h : lw_tbl[p]? = some w) (g : sx_nb w = true) : w ∈ sx_NB := List.mem_filter.mpr ⟨List.mem_of_getElem? h, g⟩
theorem sx_c7 {P : Nat → Prop} (h0 : P 0) (h1 : P 1) (h2 : P 2) (h3 : P 3) (h4 : P 4) (h5 : P 5) (h6 : P 6) : ∀ c, c < 7 → P c := by
  intro c h
  match c, h with
  | 0, _ => exact h0
  | 1, _ => exact h1
  | 2, _ => exact h2
  | 3, _ => exact h3
  | 4, _ => exact h4
  | 5, _ => exact h5
  | 6, _ => exact h6
  | c + 7, h => omega
theorem sx_vw : ∀ c, c < 7 → vwCl[c]? = some (sx_RN c, sx_T c, sx_N c) := sx_c7 rfl rfl rfl rfl rfl rfl rfl
theorem sx_hin0 : ∀ c, c < 7 → ∀ w ∈ u_ws (sx_RN c) (sx_T c) (sx_N c), w ∈ lw_tbl ∧ goodWord w = true :=
  sx_c7 (by decide +kernel) (by decide +kernel) (by decide +kernel) (by decide +kernel) (by decide +kernel) (by decide +kernel) (by decide +kernel)
theorem sx_hin (c : Nat) (h : c < 7) : ∀ w ∈ u_ws (sx_RN c) (sx_T c) (sx_N c), w ∈ sx_W := fun w hw => List.mem_filter.mpr (sx_hin0 c h w hw)
theorem sx_hty : ∀ c, c < 7 → ∀ k, k < sx_N c → parseFieldDescriptor (sx_T c k).2.2.1 = some (sx_ty c k) := sx_c7 tyX1_ok tyX2_ok tyX3_ok tyX4_ok tyX7_ok tyX9_ok tyX10_ok
theorem sx_hnm : ∀ c, c < 7 → ∀ a, a < sx_N c → ∀ b, b < sx_N c → a ≠ b → (sx_T c a).2.1 ≠ (sx_T c b).2.1 := sx_c7 nmX1 nmX2 nmX3 nmX4 nmX7 nmX9 nmX10
theorem sx_hdf : ∀ c, c < 7 → ∀ j, j < sx_N c → defaultValue (sx_ty c j) = vp_V (sx_df c) j := sx_c7 (by decide +kernel) (by decide +kernel) (by decide +kernel) (by decide +kernel) (by decide +kernel) (by decide +kernel) (by decide +kernel)
theorem sx_hdecl : ∀ c, c < 7 → ∀ k, k < sx_N c → (sx_T c k).1 = sx_RN c := sx_c7 (by decide +kernel) (by decide +kernel) (by decide +kernel) (by decide +kernel) (by decide +kernel) (by decide +kernel) (by decide +kernel)
def sx_eo (a : Nat) : String := match a with
  | 0 => "Beadslant$Cloth"
  | _ => "Beadslant$Shape"
def sx_hd (j : Nat) : Cond := match sx_hh j with
  | [] => .code (sx_y j) (sx_b j) (sx_ml j) (sx_rt j)
  | q :: hh => .codeWith (sx_y j) (sx_b j) (sx_ml j) (sx_rt j) (q :: hh)
def sx_okP (q : Nat × Nat × Nat × Nat × Nat × Nat) : Bool :=
  match q with
  | (o, i, 0, a, b, p) => decide (a < 7) && decide (b < sx_N a) && decide (lw_tbl[p]? = some (.fieldLink (sx_cn o) i (sx_RN a) (sx_T a b).2.1 (sx_T a b).2.2.1))
  | (o, i, 1, a, b, p) => decide (a < 7) && decide (b < sx_N a) && decide (lw_tbl[p]? = some (.fieldLinkNest (sx_cn o) i (sx_RN a) (sx_T a b).2.1 (sx_T a b).2.2.1 "Beadslant"))
  | (o, i, 4, a, _, p) => decide (a < 121) && !sx_st a && !sx_isI a && decide (sx_hh a = []) && decide (sx_cx (sx_own a) < 7) && decide (lw_tbl[p]? = some (.methodLink (sx_cn o) i (sx_y a)))
  | (o, i, 5, a, _, p) => decide (a < 121) && sx_st a && decide (sx_hh a = []) && decide (lw_tbl[p]? = some (.methodLink (sx_cn o) i (sx_y a)))
  | (o, i, 6, a, _, p) => decide (a < 121) && sx_st a && !decide (sx_hh a = []) && decide (lw_tbl[p]? = some (.methodLink (sx_cn o) i (sx_y a)))
  | (o, i, 7, a, _, p) => decide (a < 121) && !sx_st a && sx_isI a && decide (sx_hh a = []) && decide (lw_tbl[p]? = some (.methodLink (sx_cn o) i (sx_y a)))
  | (o, i, 8, a, _, p) => decide (a < 121) && !sx_st a && sx_isI a && decide (sx_hh a = []) && decide (lw_tbl[p]? = some (.methodLinkNest (sx_cn o) i (sx_y a) "Beadslant"))
  | (o, i, 9, _, _, p) => decide (lw_tbl[p]? = some (.methodLink (sx_cn o) i objectInit))
  | (o, i, 10, _, _, p) => decide (lw_tbl[p]? = some (.methodLink (sx_cn o) i yJ0_charAt_5068e))
  | (o, i, 11, a, _, p) => decide (a < 7) && decide (lw_tbl[p]? = some (.classLink (sx_cn o) i (sx_RN a)))
  | (o, i, 12, a, _, p) => decide (100000 ≤ i) && decide (a < 2) && decide (lw_tbl[p]? = some (.classLink (sx_cn o) (i - 100000) (sx_eo a)))
  | (o, i, 13, a, _, p) => decide (a < 5) && decide (lw_tbl[p]? = some (.classLink (sx_cn o) i (sx_en a)))
  | (o, i, 14, _, _, p) => match sx_cst o i with
    | some v => decide (lw_tbl[p]? = some (.constant (sx_cn o) i v))
    | none => false
  | (o, i, 15, _, _, p) => decide (o = 11) && decide (i = 111)
  | _ => false
theorem sx_plok : sx_pl.all sx_okP = true := by decide +kernel
def sx_okM (j : Nat) : Bool :=
  decide (lw_tbl[(sx_mw j).1]? = some (sx_hd j)) && (decide (lw_tbl[(sx_mw j).2.1]? = some (.initialized (sx_y j).cls)) &&
  ((if sx_st j = true then decide (lw_tbl[(sx_mw j).2.2.1]? = some (.static (sx_y j))) else decide (lw_tbl[(sx_mw j).2.2.1]? = some (.instanceMethod (sx_y j)))) &&
  ((sx_st j || (sx_isI j || decide (lw_tbl[(sx_mw j).2.2.2]? = some (.selects (sx_y j).cls (sx_y j) (sx_y j))))) &&
  (decide ((parseMethodDescriptor (sx_y j).desc).map (fun d => d.parameters.length) = some (if sx_st j = true then sx_np j else sx_np j - 1)) &&
  (decide ((sx_y j).cls ≠ "java/lang/invoke/MethodHandle" ∧ (sx_y j).cls ≠ "java/lang/invoke/VarHandle") &&
  ((plainName (sx_y j).cls || decide (j = 35 ∨ j = 96)) && (decide (sx_np j ≤ sx_ml j) && (decide ((sx_y j).cls = sx_cn (sx_own j)) &&
  (decide (sx_isI j = decide ((sx_y j).name = "<init>")) && ((!sx_isI j || decide (sx_rt j = none)) && (sx_st j || decide (1 ≤ sx_np j))))))))))))
theorem sx_pf35 : plainFor (sx_y 35) = true := by decide +kernel
theorem sx_pf96 : plainFor (sx_y 96) = true := by decide +kernel
theorem sx_mok0 : (List.range' 0 8).all sx_okM = true := by decide +kernel
theorem sx_mok1 : (List.range' 8 8).all sx_okM = true := by decide +kernel
theorem sx_mok2 : (List.range' 16 8).all sx_okM = true := by decide +kernel
theorem sx_mok3 : (List.range' 24 8).all sx_okM = true := by decide +kernel
theorem sx_mok4 : (List.range' 32 8).all sx_okM = true := by decide +kernel
theorem sx_mok5 : (List.range' 40 8).all sx_okM = true := by decide +kernel
theorem sx_mok6 : (List.range' 48 8).all sx_okM = true := by decide +kernel
theorem sx_mok7 : (List.range' 56 8).all sx_okM = true := by decide +kernel
theorem sx_mok8 : (List.range' 64 8).all sx_okM = true := by decide +kernel
theorem sx_mok9 : (List.range' 72 8).all sx_okM = true := by decide +kernel
theorem sx_mok10 : (List.range' 80 8).all sx_okM = true := by decide +kernel
theorem sx_mok11 : (List.range' 88 8).all sx_okM = true := by decide +kernel
theorem sx_mok12 : (List.range' 96 8).all sx_okM = true := by decide +kernel
theorem sx_mok13 : (List.range' 104 8).all sx_okM = true := by decide +kernel
theorem sx_mok14 : (List.range' 112 8).all sx_okM = true := by decide +kernel
theorem sx_mok15 : (List.range' 120 1).all sx_okM = true := by decide +kernel
theorem sx_mok_at : ∀ j, j < 121 → sx_okM j = true := by
  intro j hj
  by_cases h0 : j < 8
  · exact List.all_eq_true.mp sx_mok0 j (List.mem_range'_1.mpr ⟨by omega, by omega⟩)
  by_cases h1 : j < 16
  · exact List.all_eq_true.mp sx_mok1 j (List.mem_range'_1.mpr ⟨by omega, by omega⟩)
  by_cases h2 : j < 24
  · exact List.all_eq_true.mp sx_mok2 j (List.mem_range'_1.mpr ⟨by omega, by omega⟩)
  by_cases h3 : j < 32
  · exact List.all_eq_true.mp sx_mok3 j (List.mem_range'_1.mpr ⟨by omega, by omega⟩)
  by_cases h4 : j < 40
  · exact List.all_eq_true.mp sx_mok4 j (List.mem_range'_1.mpr ⟨by omega, by omega⟩)
  by_cases h5 : j < 48
  · exact List.all_eq_true.mp sx_mok5 j (List.mem_range'_1.mpr ⟨by omega, by omega⟩)
  by_cases h6 : j < 56
  · exact List.all_eq_true.mp sx_mok6 j (List.mem_range'_1.mpr ⟨by omega, by omega⟩)
  by_cases h7 : j < 64
  · exact List.all_eq_true.mp sx_mok7 j (List.mem_range'_1.mpr ⟨by omega, by omega⟩)
  by_cases h8 : j < 72
  · exact List.all_eq_true.mp sx_mok8 j (List.mem_range'_1.mpr ⟨by omega, by omega⟩)
  by_cases h9 : j < 80
  · exact List.all_eq_true.mp sx_mok9 j (List.mem_range'_1.mpr ⟨by omega, by omega⟩)
  by_cases h10 : j < 88
  · exact List.all_eq_true.mp sx_mok10 j (List.mem_range'_1.mpr ⟨by omega, by omega⟩)
  by_cases h11 : j < 96
  · exact List.all_eq_true.mp sx_mok11 j (List.mem_range'_1.mpr ⟨by omega, by omega⟩)
  by_cases h12 : j < 104
  · exact List.all_eq_true.mp sx_mok12 j (List.mem_range'_1.mpr ⟨by omega, by omega⟩)
  by_cases h13 : j < 112
  · exact List.all_eq_true.mp sx_mok13 j (List.mem_range'_1.mpr ⟨by omega, by omega⟩)
  by_cases h14 : j < 120
  · exact List.all_eq_true.mp sx_mok14 j (List.mem_range'_1.mpr ⟨by omega, by omega⟩)
  by_cases h15 : j < 121
  · exact List.all_eq_true.mp sx_mok15 j (List.mem_range'_1.mpr ⟨by omega, by omega⟩)
  exact absurd hj h15
/-- the cells of the class of a method's receiver -/
theorem sx_cxok : (List.range 121).all (fun j => decide (sx_cx (sx_own j) < 7 → sx_RN (sx_cx (sx_own j)) = sx_cn (sx_own j))) = true := by decide +kernel
def sx_okJ (k i : Nat) : Bool := match sx_pool (sx_own k) i with
  | some (9, _, _, _) => decide (1 ≤ sx_fr k) && decide (20 ≤ sx_lo k)
  | some (10, _, _, _) => decide (4 ≤ sx_fr k) && decide (221 ≤ sx_lo k)
  | some (_, j, _, _) => decide (sx_fr j + 1 ≤ sx_fr k) && decide (8 + (sx_ml j + 11) + sx_lo j ≤ sx_lo k)
  | none => false
def sx_okC (k : Nat) : Bool := (sx_tab k).all fun q => match q.2.1 with
  | .invokevirtual i => sx_okJ k i
  | .invokestatic i => sx_okJ k i
  | .invokespecial i => match sx_thr k (q.1 - 6), sx_thr k (q.1 - 7) with
    | none, none => sx_okJ k i
    | _, _ => true
  | _ => true
theorem sx_cok : (List.range 122).all sx_okC = true := by decide +kernel
def sx_ic (e : Nat) : Nat := [109, 61, 416, 157, 192].getD e 0
def sx_ix (e : Nat) : Nat := [7, 7, 7, 7, 13].getD e 0
def sx_rx (e : Nat) : ByteArray := ⟨#[0x2a, 0x2b, 0xb7, 0x00, UInt8.ofNat (sx_ix e), 0xb1]⟩
theorem sx_rxd : ∀ e, e < 5 → decode (sx_rx e) 0 = .ok (.aload_n 0, 1) ∧ decode (sx_rx e) 1 = .ok (.aload_n 1, 1) ∧ decode (sx_rx e) 2 = .ok (.invokespecial (sx_ix e), 3) ∧ decode (sx_rx e) 5 = .ok (.return_, 1) := by
  intro e h
  match e, h with
  | 0, _ => decide +kernel
  | 1, _ => decide +kernel
  | 2, _ => decide +kernel
  | 3, _ => decide +kernel
  | 4, _ => decide +kernel
  | e + 5, h => omega
def sx_xn : List String := ["java/lang/RuntimeException", "java/lang/Exception"]
def sx_okT (q : Nat × Nat × Nat × Nat × Nat × Nat × Bool × String) : Bool := match q with
  | (k, pc, ik, is, ic, e, w, _) =>
    decide (sx_own k = 10) && (decide (sx_hh k = []) && (decide (e < 5) && (decide (ic = sx_ic e) && (decide (6 ≤ sx_fr k) && (decide (90 ≤ sx_lo k) &&
    (decide (sx_code k pc = some (.new ik, 3)) && (decide (sx_code k (pc + 3) = some (.dup, 1)) &&
    ((if w = true then decide (sx_code k (pc + 4) = some (.ldc_w is, 3)) && (decide (sx_code k (pc + 7) = some (.invokespecial ic, 3)) && decide (sx_code k (pc + 10) = some (.athrow, 1)))
      else decide (sx_code k (pc + 4) = some (.ldc is, 2)) && (decide (sx_code k (pc + 6) = some (.invokespecial ic, 3)) && decide (sx_code k (pc + 9) = some (.athrow, 1))))
    && decide (sx_pool 10 ik = (sx_pool 10 ik).bind fun z => if z.1 = 13 ∧ z.2.1 = e then some z else none)))))))))
theorem sx_tok : sx_th.all sx_okT = true := by decide +kernel
theorem sx_xw : ∀ e, e < 5 → ∀ w ∈ (sx_oax RX10 (sx_ic e) (sx_en e) (sx_ix e) (sx_rx e) sx_xn).filter vx_no, w ∈ lw_tbl ∧ (goodWord w || sx_nb w) = true ∧ vx_ot w = true := by
  intro e h
  match e, h with
  | 0, _ => decide +kernel
  | 1, _ => decide +kernel
  | 2, _ => decide +kernel
  | 3, _ => decide +kernel
  | 4, _ => decide +kernel
  | e + 5, h => omega
theorem sx_xi : ∀ e, e < 5 → Cond.initialized (sx_en e) ∈ lw_tbl ∧ Bundle.fit (sx_en e) = true := by
  intro e h
  match e, h with
  | 0, _ => decide +kernel
  | 1, _ => decide +kernel
  | 2, _ => decide +kernel
  | 3, _ => decide +kernel
  | 4, _ => decide +kernel
  | e + 5, h => omega
theorem sx_oi : Cond.instanceMethod objectInit ∈ lw_tbl ∧ Cond.code objectInit ⟨#[0xb1]⟩ 1 none ∈ lw_tbl := by decide +kernel
theorem sx_cls : ∀ c, c < 7 → lw_tbl[(sx_kw c).1]? = some (.instantiable (sx_RN c) (sx_N c)) ∧ lw_tbl[(sx_kw c).2]? = some (.initialized (sx_RN c)) :=
  sx_c7 (by decide +kernel) (by decide +kernel) (by decide +kernel) (by decide +kernel) (by decide +kernel) (by decide +kernel) (by decide +kernel)
theorem sx_ai : Cond.arrayClass .int ∈ lw_tbl := by decide +kernel
def sx_ln (i : Instr) : Nat := match i with
  | .iload _ => 2
  | .aload _ => 2
  | .istore _ => 2
  | .astore _ => 2
  | .bipush _ => 2
  | .ldc _ => 2
  | .newarray _ => 2
  | .iinc .. => 3
  | .sipush _ => 3
  | .goto _ => 3
  | .ifCond .. => 3
  | .if_icmp .. => 3
  | .ifnonnull _ => 3
  | .getfield _ => 3
  | .putfield _ => 3
  | .new _ => 3
  | .anewarray _ => 3
  | .invokevirtual _ => 3
  | .invokestatic _ => 3
  | .invokespecial _ => 3
  | .ldc_w _ => 3
  | _ => 1
theorem sx_lnok : (List.range 122).all (fun k => (sx_tab k).all fun q => decide (q.2.2 = sx_ln q.2.1)) = true := by decide +kernel
theorem sx_lt122 {k pc n : Nat} {i : Instr} (h : sx_code k pc = some (i, n)) : k < 122 := by
  rcases Nat.lt_or_ge k 122 with q | q
  · exact q
  · exfalso
    have e : sx_tab k = [] := by
      unfold sx_tab
      rw [List.getD_eq_getElem?_getD, List.getElem?_eq_none (by show 122 ≤ k; exact q)]
      rfl
    unfold sx_code at h
    rw [e] at h
    cases h
theorem sx_len {k pc n : Nat} {i : Instr} (h : sx_code k pc = some (i, n)) : n = sx_ln i := by
  have h1 := List.all_eq_true.mp sx_lnok k (List.mem_range.mpr (sx_lt122 h))
  exact of_decide_eq_true (List.all_eq_true.mp h1 _ (sx_lookup_mem h))
theorem sx_decl {k pc n : Nat} {i : Instr} (h : sx_code k pc = some (i, n)) : decode (sx_b k) pc = .ok (i, sx_ln i) := by
  rw [← sx_len h]
  exact sx_dec h
theorem sx_pool_ok {o i : Nat} {z : Nat × Nat × Nat × Nat} (h : sx_pool o i = some z) : sx_okP (o, i, z) = true := by
  unfold sx_pool at h
  obtain ⟨q, h1, h2⟩ := Option.map_eq_some_iff.mp h
  have h3 := List.find?_some h1
  have h4 := List.mem_of_find?_eq_some h1
  simp only [Bool.and_eq_true, beq_iff_eq] at h3
  have h5 := List.all_eq_true.mp sx_plok _ h4
  obtain ⟨q1, q2, q3⟩ := q
  dsimp only at h2 h3
  rw [← h2, ← h3.1, ← h3.2]
  exact h5
theorem sx_thr_ok {k pc : Nat} {z : Nat × Nat × Nat × Nat × Bool × String} (h : sx_thr k pc = some z) : sx_okT (k, pc, z) = true ∧ (k, pc, z) ∈ sx_th := by
  unfold sx_thr at h
  obtain ⟨q, h1, h2⟩ := Option.map_eq_some_iff.mp h
  have h3 := List.find?_some h1
  have h4 := List.mem_of_find?_eq_some h1
  simp only [Bool.and_eq_true, beq_iff_eq] at h3
  have h5 := List.all_eq_true.mp sx_tok _ h4
  obtain ⟨q1, q2, q3⟩ := q
  dsimp only at h2 h3
  rw [← h2, ← h3.1, ← h3.2]
  exact ⟨h5, h4⟩
theorem sx_cst_ok {o i : Nat} {v : Int32} (h : sx_cst o i = some v) : Cond.constant (sx_cn o) i v ∈ sx_W := by
  have h9 : ∀ q ∈ sx_cl0, Cond.constant (sx_cn q.1) q.2.1 q.2.2 ∈ sx_W := by
    intro q hq
    refine List.mem_filter.mpr ⟨?_, rfl⟩
    revert q hq
    decide +kernel
  unfold sx_cst at h
  obtain ⟨q, h1, h2⟩ := Option.map_eq_some_iff.mp h
  have h3 := List.find?_some h1
  have h4 := h9 _ (List.mem_of_find?_eq_some h1)
  simp only [Bool.and_eq_true, beq_iff_eq] at h3
  rw [h3.1, h3.2, h2] at h4
  exact h4
theorem sx_ints_some {S : List Int32} {h : sx_H} {a : Nat} {xs : List Int32} (e : sx_ints S h a = some xs) : (a = 0 ∧ xs = S) ∨ sx_get h a = some (.inl xs) := by
  unfold sx_ints at e
  split at e
  · cases e
    exact Or.inl ⟨rfl, rfl⟩
  · split at e
    · rename_i ys hy
      cases e
      exact Or.inr hy
    · cases e
theorem sx_cx_own {k c : Nat} (h : sx_cx (sx_own k) < 7) (e : sx_cx (sx_own k) = c) : sx_RN c = sx_cn (sx_own k) := by
  subst e
  rcases Nat.lt_or_ge k 121 with q | q
  · exact (of_decide_eq_true (List.all_eq_true.mp sx_cxok k (List.mem_range.mpr q))) h
  · exfalso
    revert h
    unfold sx_own
    rcases Nat.lt_or_ge k 122 with q2 | q2
    · have : k = 121 := by omega
      subst this
      decide
    · rw [List.getD_eq_getElem?_getD, List.getElem?_eq_none (by show 122 ≤ k; exact q2)]
      decide
theorem sx_call_room {k pc n idx : Nat} {i : Instr} (h : sx_code k pc = some (i, n)) (hi : i = .invokevirtual idx ∨ i = .invokestatic idx) : sx_okJ k idx = true := by
  have h1 := List.all_eq_true.mp sx_cok k (List.mem_range.mpr (sx_lt122 h))
  have h2 := List.all_eq_true.mp h1 _ (sx_lookup_mem h)
  rcases hi with rfl | rfl <;> exact h2
theorem sx_okI_ok : (List.range 122).all (fun k => (sx_tab k).all fun q => match q.2.1 with
    | .invokespecial i => match sx_pool (sx_own k) i with
      | some _ => sx_okJ k i
      | none => true
    | _ => true) = true := by decide +kernel
theorem sx_call_roomI {k pc n idx : Nat} {z : Nat × Nat × Nat × Nat} (h : sx_code k pc = some (.invokespecial idx, n)) (hp : sx_pool (sx_own k) idx = some z) : sx_okJ k idx = true := by
  have h1 := List.all_eq_true.mp sx_okI_ok k (List.mem_range.mpr (sx_lt122 h))
  have h2 := List.all_eq_true.mp h1 _ (sx_lookup_mem h)
  dsimp only at h2
  rw [hp] at h2
  exact h2
theorem sx_objroom {k pc n idx : Nat} {z : Nat × Nat × Nat} (h : sx_code k pc = some (.invokespecial idx, n)) (hp : sx_pool (sx_own k) idx = some (9, z)) : 1 ≤ sx_fr k ∧ 20 ≤ sx_lo k := by
  have h1 := sx_call_roomI h hp
  unfold sx_okJ at h1
  rw [hp] at h1
  obtain ⟨z1, z2, z3⟩ := z
  simp only [Bool.and_eq_true, decide_eq_true_eq] at h1
  exact h1
