/-! THE LAW: repeat, mirror, and what stands in the cloth -/
theorem sz_bz1 (d : Bool) : sz (bz d) &&& sz 1 = sz (bz d) := by cases d <;> decide
theorem sz_bz0 (d : Bool) : sz (bz d) &&& sz 0 = sz (bz false) := by cases d <;> decide
theorem nall_iff (f : Nat → Bool) : ∀ (n i : Nat), nall f i n = true ↔ ∀ j, i ≤ j → j < i + n → f j = true := by
  intro n
  induction n with
  | zero => intro i; exact ⟨fun _ j h1 h2 => by omega, fun _ => rfl⟩
  | succ n ih =>
    intro i
    rw [nall, Bool.and_eq_true, ih (i + 1)]
    constructor
    · intro ⟨h1, h2⟩ j h3 h4
      by_cases q : j = i
      · rw [q]; exact h1
      · exact h2 j (by omega) (by omega)
    · intro h
      exact ⟨h i (by omega) (by omega), fun j h1 h2 => h j (by omega) (by omega)⟩
theorem bool_ext {a b : Bool} (h : a = true ↔ b = true) : a = b := by
  cases a <;> cases b <;> simp_all
theorem nall_r (f : Nat → Bool) : ∀ (n i : Nat), nall f i (n + 1) = (nall f i n && f (i + n)) := by
  intro n
  induction n with
  | zero => intro i; simp [nall]
  | succ n ih =>
    intro i
    rw [nall, ih (i + 1), nall, Bool.and_assoc, show i + 1 + n = i + (n + 1) by omega]
def Clo.dos (C : Clo) (b k : Nat) : Bool := decide (k % C.nc < b ∨ C.gk k = C.gk (k - b))
def Clo.mrk (C : Clo) (k : Nat) : Bool := decide (C.gk k = C.gk (k - k % C.nc + (C.nc - 1 - k % C.nc)))
theorem Clo.dos_rep {C : Clo} (hC : C.ok) {b : Nat} (hb : 1 ≤ b ∧ b < C.nc) : nall (C.dos b) 0 C.ks.length = C.rep b := by
  refine bool_ext ?_
  unfold Clo.rep
  rw [nall_iff, nall_iff]
  have hn := hC.1
  constructor
  · intro h r _ hr
    rw [nall_iff]
    intro x _ hx
    refine decide_eq_true ?_
    have hk : r * C.nc + (x + b) < C.ks.length := by rw [hC.2.2.1]; exact rx_lt (by omega) (by omega)
    have := of_decide_eq_true (h (r * C.nc + (x + b)) (by omega) (by omega))
    rw [(nat_rx (r := r) (x := x + b) (nc := C.nc) (by omega)).2] at this
    rw [show (x : Int) + b = ((x + b : Nat) : Int) by omega, g_gk (by omega) (by omega), g_gk (by omega) (by omega)]
    rw [show r * C.nc + (x + b) - b = r * C.nc + x by omega] at this
    omega
  · intro h k _ hk
    refine decide_eq_true ?_
    by_cases q : k % C.nc < b
    · exact Or.inl q
    · refine Or.inr ?_
      have hkd : k / C.nc < C.nr := Nat.div_lt_of_lt_mul (by rw [Nat.mul_comm, ← hC.2.2.1]; omega)
      have hkm : k % C.nc < C.nc := Nat.mod_lt _ (by omega)
      have h1 := h (k / C.nc) (Nat.zero_le _) (by rw [Nat.zero_add]; exact hkd)
      rw [nall_iff] at h1
      have h2 := of_decide_eq_true (h1 (k % C.nc - b) (Nat.zero_le _) (by omega))
      rw [show ((k % C.nc - b : Nat) : Int) + b = ((k % C.nc : Nat) : Int) by omega, g_gk hkd (by omega), g_gk hkd (by omega)] at h2
      have hdm := Nat.div_add_mod k C.nc
      rw [Nat.mul_comm] at hdm
      rw [show k / C.nc * C.nc + (k % C.nc - b) = k - b by omega, hdm] at h2
      exact h2.symm
theorem Clo.mrk_mir {C : Clo} (hC : C.ok) : nall C.mrk 0 C.ks.length = C.mir := by
  refine bool_ext ?_
  unfold Clo.mir
  rw [nall_iff, nall_iff]
  have hn := hC.1
  constructor
  · intro h r _ hr
    rw [nall_iff]
    intro x _ hx
    refine decide_eq_true ?_
    have hk : r * C.nc + x < C.ks.length := by rw [hC.2.2.1]; exact rx_lt (by omega) (by omega)
    have := of_decide_eq_true (h (r * C.nc + x) (by omega) (by omega))
    rw [(nat_rx (r := r) (x := x) (nc := C.nc) (by omega)).2] at this
    rw [show (C.nc : Int) - 1 - x = ((C.nc - 1 - x : Nat) : Int) by omega, g_gk (by omega) (by omega), g_gk (by omega) (by omega)]
    rw [show r * C.nc + x - x + (C.nc - 1 - x) = r * C.nc + (C.nc - 1 - x) by omega] at this
    exact this
  · intro h k _ hk
    refine decide_eq_true ?_
    have hkd : k / C.nc < C.nr := Nat.div_lt_of_lt_mul (by rw [Nat.mul_comm, ← hC.2.2.1]; omega)
    have hkm : k % C.nc < C.nc := Nat.mod_lt _ (by omega)
    have h1 := h (k / C.nc) (Nat.zero_le _) (by rw [Nat.zero_add]; exact hkd)
    rw [nall_iff] at h1
    have h2 := of_decide_eq_true (h1 (k % C.nc) (Nat.zero_le _) (by omega))
    rw [show (C.nc : Int) - 1 - ((k % C.nc : Nat) : Int) = ((C.nc - 1 - k % C.nc : Nat) : Int) by omega, g_gk hkd (by omega), g_gk hkd (by omega)] at h2
    have hdm := Nat.div_add_mod k C.nc
    rw [Nat.mul_comm] at hdm
    rw [hdm] at h2
    rw [h2]
    congr 1
    omega
def Clo.ful (C : Clo) : Bool := nall (fun j => decide (0 ≤ C.ks.getD j 0)) 0 C.ks.length
theorem nsum_eq0 {f : Nat → Int} (hf : ∀ j, 0 ≤ f j) : ∀ (n i : Nat), nsum f i n = 0 → ∀ j, i ≤ j → j < i + n → f j = 0 := by
  intro n
  induction n with
  | zero => intro i _ j h1 h2; omega
  | succ n ih =>
    intro i h j h1 h2
    rw [nsum] at h
    have h3 := hf i
    have h4 : 0 ≤ nsum f (i + 1) n := by
      have : ∀ m k, 0 ≤ nsum f k m := fun m => by
        induction m with
        | zero => intro k; exact Int.le_refl _
        | succ m ihm => intro k; rw [nsum]; have := hf k; have := ihm (k + 1); omega
      exact this _ _
    by_cases q : j = i
    · rw [q]; omega
    · exact ih (i + 1) (by omega) j (by omega) (by omega)
theorem Clo.ful_many {C : Clo} (hC : C.ok) : C.ful = true ↔ C.many (-1) = 0 := by
  unfold Clo.ful
  rw [nall_iff]
  constructor
  · intro h
    refine nsum_0 _ _ fun j _ hj => if_neg fun q => ?_
    have := of_decide_eq_true (h j (by omega) (by omega))
    rw [kk_k (by omega)] at q
    omega
  · intro h j _ hj
    have := nsum_eq0 (f := fun j => if C.k j = -1 then (1 : Int) else 0) (fun j => by split <;> omega) C.ks.length 0 h j (by omega) (by omega)
    have hk : C.k j ≠ -1 := fun q => by rw [if_pos q] at this; omega
    rw [kk_k (by omega)] at hk
    have := kk_bd hC j
    exact decide_eq_true (by omega)
section SXM
variable {S : List Int32} {h : sx_H} {ws wl : List Int} {c a N : Nat} {C : Clo}
theorem L_N (hS : S.length ≤ 260) (hL : sx_L1 h ws wl c a C N) (hN : N ≤ 499000) {t22 t23 : Int} (h22 : C.ful = true → t22 = C.lrep) (h23 : C.ful = true → t23 = bz C.mir) (hb22 : -1000 ≤ t22 ∧ t22 ≤ 1000) (hb23 : 0 ≤ t23 ∧ t23 ≤ 1) {l10 l11 l12 l13 l14 l15 l16 l17 l18 l19 l20 l24 l25 l26 l27 l28 l29 l30 l31 l32 : Option Value} :
    sx_OK S 1290 [some (.ref 0), some (.ref 2), some (.ref 17), some (.ref 18), some (.ref 19), some (.int (sz C.st)), some (.int (sz C.nc)), some (.int (sz C.nr)), some (.int (sz 1)), some (.ref a), l10, l11, l12, l13, l14, l15, l16, l17, l18, l19, l20, some (.int (sz (bz C.ful))), some (.int (sz t22)), some (.int (sz t23)), l24, l25, l26, l27, l28, l29, l30, l31, l32] h := by
  have hC := L1_ok hL
  have hdim := hL.2.2.2.2.1
  by_cases hf : C.ful = true
  · have hm := (C.ful_many hC).mp hf
    have w1 := w_repeat (S := S) hL.1 (i := 0) ⟨by decide, rfl⟩ hm
    have w2 := w_mir (S := S) hL.1 (i := 0) ⟨by decide, rfl⟩ hm
    rw [← h22 hf] at w1
    rw [← h23 hf] at w2
    have nx : ∀ l25 l26 l27 l28 l29 l30 l31 l32, sx_OK S 1351 [some (.ref 0), some (.ref 2), some (.ref 17), some (.ref 18), some (.ref 19), some (.int (sz C.st)), some (.int (sz C.nc)), some (.int (sz C.nr)), some (.int (sz 1)), some (.ref a), l10, l11, l12, l13, l14, l15, l16, l17, l18, l19, l20, some (.int (sz 1)), some (.int (sz t22)), some (.int (sz t23)), some (.int (sz ((0 : Nat) : Int))), l25, l26, l27, l28, l29, l30, l31, l32] h := fun _ _ _ _ _ _ _ _ => L_O hS C.nr 0 h N (by omega) hL (by omega)
    rw [hf, bz_t]
    unfold sx_OK at nx ⊢
    rcases (show t23 = 0 ∨ t23 = 1 by omega) with q | q <;> subst q
    · simp (maxSteps := 2000000) (disch := omega) only [e121_1290, e121_1292, e121_1293, e121_1294, e121_1297, e121_1299, e121_1302, e121_1304, e121_1307, e121_1309, e121_1312, e121_1313, e121_1314, e121_1317, e121_1319, e121_1322, e121_1324, e121_1327, e121_1329, e121_1332, e121_1333, e121_1336, e121_1337, e121_1340, e121_1341, e121_1344, e121_1345, e121_1346, e121_1348, e121_1349, w1, w2, sz_and11, eq_self, Option.bind_some, sz_lt0, sz_lt, sz_0lt, sz_mul, sz_add, sz_sub, sz_eq0, sz_eq, sz_nat, List.length_map, nb0, nb1, bz_eq0, ↓reduceIte, Int.reduceEq, Int.reduceLT, Int.reduceAdd, Int.reduceSub, Int.reduceMul, Int.reduceNeg]
      exact nx _ _ _ _ _ _ _ _
    · simp (maxSteps := 2000000) (disch := omega) only [e121_1290, e121_1292, e121_1293, e121_1294, e121_1297, e121_1299, e121_1302, e121_1304, e121_1307, e121_1309, e121_1312, e121_1313, e121_1314, e121_1317, e121_1319, e121_1322, e121_1324, e121_1327, e121_1329, e121_1332, e121_1333, e121_1336, e121_1337, e121_1340, e121_1341, e121_1344, e121_1345, e121_1346, e121_1348, e121_1349, w1, w2, sz_and11, eq_self, Option.bind_some, sz_lt0, sz_lt, sz_0lt, sz_mul, sz_add, sz_sub, sz_eq0, sz_eq, sz_nat, List.length_map, nb0, nb1, bz_eq0, ↓reduceIte, Int.reduceEq, Int.reduceLT, Int.reduceAdd, Int.reduceSub, Int.reduceMul, Int.reduceNeg]
      exact nx _ _ _ _ _ _ _ _
  · have hm : 0 < C.many (-1) := by
      have h1 := Clo.many_bd hC (-1)
      have h2 : ¬ C.many (-1) = 0 := fun q => hf ((C.ful_many hC).mpr q)
      omega
    have hf2 : C.ful = false := by simpa using hf
    have w1 := w_repeat_no (S := S) hL.1 (i := 0) ⟨by decide, rfl⟩ hm
    have hL1 := L1_exc hL
    have w2 := w_mir_no (S := S) hL1.1 (i := 0) ⟨by decide, rfl⟩ hm
    have hL2 := L1_exc hL1
    have nx : ∀ l25 l26 l27 l28 l29 l30 l31 l32, sx_OK S 1351 [some (.ref 0), some (.ref 2), some (.ref 17), some (.ref 18), some (.ref 19), some (.int (sz C.st)), some (.int (sz C.nc)), some (.int (sz C.nr)), some (.int (sz 1)), some (.ref a), l10, l11, l12, l13, l14, l15, l16, l17, l18, l19, l20, some (.int (sz 0)), some (.int (sz t22)), some (.int (sz t23)), some (.int (sz ((0 : Nat) : Int))), l25, l26, l27, l28, l29, l30, l31, l32] (sx_push (sx_push h none 6) none 6) := fun _ _ _ _ _ _ _ _ => L_O hS C.nr 0 _ _ (by omega) hL2 (by omega)
    rw [hf2, bz_f]
    unfold sx_OK at nx ⊢
    simp (maxSteps := 2000000) (disch := omega) only [e121_1290, e121_1292, e121_1293, e121_1294, e121_1297, e121_1299, e121_1302, e121_1304, e121_1307, e121_1309, e121_1312, e121_1313, e121_1314, e121_1317, e121_1319, e121_1322, e121_1324, e121_1327, e121_1329, e121_1332, e121_1333, e121_1336, e121_1337, e121_1340, e121_1341, e121_1344, e121_1345, e121_1346, e121_1348, e121_1349, w1, w2, sz_and11, eq_self, Option.bind_some, sz_lt0, sz_lt, sz_0lt, sz_mul, sz_add, sz_sub, sz_eq0, sz_eq, sz_nat, List.length_map, nb0, nb1, bz_eq0, ↓reduceIte, Int.reduceEq, Int.reduceLT, Int.reduceAdd, Int.reduceSub, Int.reduceMul, Int.reduceNeg]
    exact nx _ _ _ _ _ _ _ _
theorem L_Mi (hL : sx_L1 h ws wl c a C N) (hf : C.ful = true) {b : Nat} (hb : 1 ≤ b ∧ b < C.nc) : ∀ (n k : Nat) (d m : Bool) {l10 l11 l12 l13 l14 l15 l16 l17 l18 l19 l20 l21 l22 l27 l28 l29 l30 l31 l32 : Option Value}, k + n = C.ks.length →
    sx_Ev S 121 1172 [some (.ref 0), some (.ref 2), some (.ref 17), some (.ref 18), some (.ref 19), some (.int (sz C.st)), some (.int (sz C.nc)), some (.int (sz C.nr)), some (.int (sz 1)), some (.ref a), l10, l11, l12, l13, l14, l15, l16, l17, l18, l19, l20, l21, l22, some (.int (sz (bz m))), some (.int (sz b)), some (.int (sz (bz d))), some (.int (sz k)), l27, l28, l29, l30, l31, l32] [] h =
    sx_Ev S 121 1270 [some (.ref 0), some (.ref 2), some (.ref 17), some (.ref 18), some (.ref 19), some (.int (sz C.st)), some (.int (sz C.nc)), some (.int (sz C.nr)), some (.int (sz 1)), some (.ref a), l10, l11, l12, l13, l14, l15, l16, l17, l18, l19, l20, l21, l22, some (.int (sz (bz (m && nall C.mrk k n)))), some (.int (sz b)), some (.int (sz (bz (d && nall (C.dos b) k n)))), some (.int (sz C.ks.length)), l27, l28, l29, l30, l31, l32] [] h := by
  have hC := L1_ok hL
  have hlen := L1_len hL
  have hdim := hL.2.2.2.2.1
  have i0 := sx_ints_of (S := S) hL.2.2.1
  have hn := hC.1
  unfold Clo.ful at hf
  rw [nall_iff] at hf
  intro n
  induction n with
  | zero =>
    intro k d m l10 l11 l12 l13 l14 l15 l16 l17 l18 l19 l20 l21 l22 l27 l28 l29 l30 l31 l32 hk
    rw [h121_1172, show k = C.ks.length by omega]
    simp (maxSteps := 2000000) (disch := omega) only [e121_1174, e121_1176, e121_1177, i0, Option.bind_some, sz_lt0, sz_lt, sz_0lt, sz_mul, sz_add, sz_sub, sz_eq0, sz_eq, sz_nat, List.length_map, nb0, nb1, bz_eq0, ↓reduceIte, Int.reduceEq, Int.reduceLT, Int.reduceAdd, Int.reduceSub, Int.reduceMul, Int.reduceNeg]
    rw [if_neg (by omega)]
    simp [nall]
  | succ n ih =>
    intro k d m l10 l11 l12 l13 l14 l15 l16 l17 l18 l19 l20 l21 l22 l27 l28 l29 l30 l31 l32 hk
    have hkl : k < C.ks.length := by omega
    have hk1 : (k : Int) + 1 = ((k + 1 : Nat) : Int) := by omega
    have hkm : k % C.nc < C.nc := Nat.mod_lt _ (by omega)
    have hke : k % C.nc ≤ k := Nat.mod_le _ _
    have d1 := nat_tdiv k C.nc
    have d2 := nat_tmod k C.nc
    have hz : ((C.nc : Int) = 0) = False := eq_false (by omega)
    have rd := L1_rd (S := S) hL hkl
    have g0 := gk_3 hC k
    have f0 := of_decide_eq_true (hf k (by omega) (by omega))
    have b0 := kk_bd hC k
    have hkd : k / C.nc < C.nr := Nat.div_lt_of_lt_mul (by rw [Nat.mul_comm, ← hC.2.2.1]; omega)
    have hdm := Nat.div_add_mod k C.nc
    rw [Nat.mul_comm] at hdm
    have hjl : k - k % C.nc + (C.nc - 1 - k % C.nc) < C.ks.length := by
      have := rx_lt (r := k / C.nc) (x := C.nc - 1 - k % C.nc) hkd (Nat.lt_of_le_of_lt (Nat.sub_le _ _) (Nat.sub_lt (by omega) (by decide)))
      rw [hC.2.2.1]
      omega
    have rd2 := L1_rd (S := S) hL hjl
    have hidx : (k : Int) - ((k % C.nc : Nat) : Int) + C.nc - 1 - ((k % C.nc : Nat) : Int) = ((k - k % C.nc + (C.nc - 1 - k % C.nc) : Nat) : Int) := by omega
    have g2 := gk_3 hC (k - k % C.nc + (C.nc - 1 - k % C.nc))
    have f2 := of_decide_eq_true (hf (k - k % C.nc + (C.nc - 1 - k % C.nc)) (by omega) (by omega))
    have b2 := kk_bd hC (k - k % C.nc + (C.nc - 1 - k % C.nc))
    have e0 : C.ks.getD k 0 - (C.ks.getD k 0).tdiv 3 * 3 = C.gk k := by omega
    have e2 : C.ks.getD (k - k % C.nc + (C.nc - 1 - k % C.nc)) 0 - (C.ks.getD (k - k % C.nc + (C.nc - 1 - k % C.nc)) 0).tdiv 3 * 3 = C.gk (k - k % C.nc + (C.nc - 1 - k % C.nc)) := by omega
    have gb0 : 0 ≤ C.gk k ∧ C.gk k ≤ 2 := by omega
    have gb2 : 0 ≤ C.gk (k - k % C.nc + (C.nc - 1 - k % C.nc)) ∧ C.gk (k - k % C.nc + (C.nc - 1 - k % C.nc)) ≤ 2 := by omega
    have klt : ((k : Int) < C.ks.length) = True := eq_true (by omega)
    have nx := fun (d m : Bool) => @ih (k + 1) d m l10 l11 l12 l13 l14 l15 l16 l17 l18 l19 l20 l21 l22 l27 l28 l29 l30 l31 l32 (by omega)
    have hmr : C.mrk k = decide (C.gk k = C.gk (k - k % C.nc + (C.nc - 1 - k % C.nc))) := rfl
    have hdo : C.dos b k = decide (k % C.nc < b ∨ C.gk k = C.gk (k - b)) := rfl
    rw [nall, nall, ← Bool.and_assoc, ← Bool.and_assoc, ← nx (d && C.dos b k) (m && C.mrk k), hmr, hdo]
    rw [h121_1172]
    by_cases c1 : k % C.nc < b
    · have k1 : (((k % C.nc : Nat) : Int) < b) = True := eq_true (by omega)
      rw [decide_eq_true (p := _ ∨ _) (Or.inl c1), Bool.and_true]
      by_cases c2 : C.gk k = C.gk (k - k % C.nc + (C.nc - 1 - k % C.nc))
      · rw [decide_eq_true c2, Bool.and_true]
        simp (maxSteps := 2000000) (disch := omega) only [e121_1174, e121_1176, e121_1177, e121_1180, e121_1182, e121_1184, e121_1186, e121_1187, e121_1189, e121_1192, e121_1194, e121_1196, e121_1197, e121_1198, e121_1199, e121_1201, e121_1203, e121_1205, e121_1206, e121_1207, e121_1208, e121_1209, e121_1212, e121_1213, e121_1216, e121_1217, e121_1218, e121_1220, e121_1222, e121_1224, e121_1226, e121_1227, e121_1228, e121_1229, e121_1231, e121_1233, e121_1235, e121_1237, e121_1238, e121_1239, e121_1241, e121_1242, e121_1243, e121_1244, e121_1246, e121_1248, e121_1249, e121_1250, e121_1251, e121_1252, e121_1253, e121_1256, e121_1257, e121_1260, e121_1261, e121_1262, e121_1264, e121_1267, i0, klt, sz_tdiv, d1, d2, hz, k1, rd, hidx, rd2, e0, e2, hk1, sz_bz1, sz_bz0, Option.bind_some, sz_lt0, sz_lt, sz_0lt, sz_mul, sz_add, sz_sub, sz_eq0, sz_eq, sz_nat, List.length_map, nb0, nb1, bz_eq0, ↓reduceIte, Int.reduceEq, Int.reduceLT, Int.reduceAdd, Int.reduceSub, Int.reduceMul, Int.reduceNeg]
        rw [if_pos c2]
      · rw [decide_eq_false c2, Bool.and_false]
        simp (maxSteps := 2000000) (disch := omega) only [e121_1174, e121_1176, e121_1177, e121_1180, e121_1182, e121_1184, e121_1186, e121_1187, e121_1189, e121_1192, e121_1194, e121_1196, e121_1197, e121_1198, e121_1199, e121_1201, e121_1203, e121_1205, e121_1206, e121_1207, e121_1208, e121_1209, e121_1212, e121_1213, e121_1216, e121_1217, e121_1218, e121_1220, e121_1222, e121_1224, e121_1226, e121_1227, e121_1228, e121_1229, e121_1231, e121_1233, e121_1235, e121_1237, e121_1238, e121_1239, e121_1241, e121_1242, e121_1243, e121_1244, e121_1246, e121_1248, e121_1249, e121_1250, e121_1251, e121_1252, e121_1253, e121_1256, e121_1257, e121_1260, e121_1261, e121_1262, e121_1264, e121_1267, i0, klt, sz_tdiv, d1, d2, hz, k1, rd, hidx, rd2, e0, e2, hk1, sz_bz1, sz_bz0, Option.bind_some, sz_lt0, sz_lt, sz_0lt, sz_mul, sz_add, sz_sub, sz_eq0, sz_eq, sz_nat, List.length_map, nb0, nb1, bz_eq0, ↓reduceIte, Int.reduceEq, Int.reduceLT, Int.reduceAdd, Int.reduceSub, Int.reduceMul, Int.reduceNeg]
        rw [if_neg c2]
    · have k1 : (((k % C.nc : Nat) : Int) < b) = False := eq_false (by omega)
      have rd3 := L1_rd (S := S) hL (i := k - b) (by omega)
      rw [show ((k - b : Nat) : Int) = (k : Int) - b by omega] at rd3
      have g3 := gk_3 hC (k - b)
      have f3 := of_decide_eq_true (hf (k - b) (by omega) (by omega))
      have b3 := kk_bd hC (k - b)
      have e3 : C.ks.getD (k - b) 0 - (C.ks.getD (k - b) 0).tdiv 3 * 3 = C.gk (k - b) := by omega
      have gb3 : 0 ≤ C.gk (k - b) ∧ C.gk (k - b) ≤ 2 := by omega
      by_cases c3 : C.gk k = C.gk (k - b)
      · rw [decide_eq_true (p := _ ∨ _) (Or.inr c3), Bool.and_true]
        by_cases c2 : C.gk k = C.gk (k - k % C.nc + (C.nc - 1 - k % C.nc))
        · rw [decide_eq_true c2, Bool.and_true]
          simp (maxSteps := 2000000) (disch := omega) only [e121_1174, e121_1176, e121_1177, e121_1180, e121_1182, e121_1184, e121_1186, e121_1187, e121_1189, e121_1192, e121_1194, e121_1196, e121_1197, e121_1198, e121_1199, e121_1201, e121_1203, e121_1205, e121_1206, e121_1207, e121_1208, e121_1209, e121_1212, e121_1213, e121_1216, e121_1217, e121_1218, e121_1220, e121_1222, e121_1224, e121_1226, e121_1227, e121_1228, e121_1229, e121_1231, e121_1233, e121_1235, e121_1237, e121_1238, e121_1239, e121_1241, e121_1242, e121_1243, e121_1244, e121_1246, e121_1248, e121_1249, e121_1250, e121_1251, e121_1252, e121_1253, e121_1256, e121_1257, e121_1260, e121_1261, e121_1262, e121_1264, e121_1267, i0, klt, sz_tdiv, d1, d2, hz, k1, rd, hidx, rd2, rd3, e0, e2, e3, hk1, sz_bz1, sz_bz0, Option.bind_some, sz_lt0, sz_lt, sz_0lt, sz_mul, sz_add, sz_sub, sz_eq0, sz_eq, sz_nat, List.length_map, nb0, nb1, bz_eq0, ↓reduceIte, Int.reduceEq, Int.reduceLT, Int.reduceAdd, Int.reduceSub, Int.reduceMul, Int.reduceNeg]
          rw [if_pos c3, if_pos c2]
        · rw [decide_eq_false c2, Bool.and_false]
          simp (maxSteps := 2000000) (disch := omega) only [e121_1174, e121_1176, e121_1177, e121_1180, e121_1182, e121_1184, e121_1186, e121_1187, e121_1189, e121_1192, e121_1194, e121_1196, e121_1197, e121_1198, e121_1199, e121_1201, e121_1203, e121_1205, e121_1206, e121_1207, e121_1208, e121_1209, e121_1212, e121_1213, e121_1216, e121_1217, e121_1218, e121_1220, e121_1222, e121_1224, e121_1226, e121_1227, e121_1228, e121_1229, e121_1231, e121_1233, e121_1235, e121_1237, e121_1238, e121_1239, e121_1241, e121_1242, e121_1243, e121_1244, e121_1246, e121_1248, e121_1249, e121_1250, e121_1251, e121_1252, e121_1253, e121_1256, e121_1257, e121_1260, e121_1261, e121_1262, e121_1264, e121_1267, i0, klt, sz_tdiv, d1, d2, hz, k1, rd, hidx, rd2, rd3, e0, e2, e3, hk1, sz_bz1, sz_bz0, Option.bind_some, sz_lt0, sz_lt, sz_0lt, sz_mul, sz_add, sz_sub, sz_eq0, sz_eq, sz_nat, List.length_map, nb0, nb1, bz_eq0, ↓reduceIte, Int.reduceEq, Int.reduceLT, Int.reduceAdd, Int.reduceSub, Int.reduceMul, Int.reduceNeg]
          rw [if_pos c3, if_neg c2]
      · rw [decide_eq_false (p := _ ∨ _) (fun q => q.elim c1 c3), Bool.and_false]
        by_cases c2 : C.gk k = C.gk (k - k % C.nc + (C.nc - 1 - k % C.nc))
        · rw [decide_eq_true c2, Bool.and_true]
          simp (maxSteps := 2000000) (disch := omega) only [e121_1174, e121_1176, e121_1177, e121_1180, e121_1182, e121_1184, e121_1186, e121_1187, e121_1189, e121_1192, e121_1194, e121_1196, e121_1197, e121_1198, e121_1199, e121_1201, e121_1203, e121_1205, e121_1206, e121_1207, e121_1208, e121_1209, e121_1212, e121_1213, e121_1216, e121_1217, e121_1218, e121_1220, e121_1222, e121_1224, e121_1226, e121_1227, e121_1228, e121_1229, e121_1231, e121_1233, e121_1235, e121_1237, e121_1238, e121_1239, e121_1241, e121_1242, e121_1243, e121_1244, e121_1246, e121_1248, e121_1249, e121_1250, e121_1251, e121_1252, e121_1253, e121_1256, e121_1257, e121_1260, e121_1261, e121_1262, e121_1264, e121_1267, i0, klt, sz_tdiv, d1, d2, hz, k1, rd, hidx, rd2, rd3, e0, e2, e3, hk1, sz_bz1, sz_bz0, Option.bind_some, sz_lt0, sz_lt, sz_0lt, sz_mul, sz_add, sz_sub, sz_eq0, sz_eq, sz_nat, List.length_map, nb0, nb1, bz_eq0, ↓reduceIte, Int.reduceEq, Int.reduceLT, Int.reduceAdd, Int.reduceSub, Int.reduceMul, Int.reduceNeg]
          rw [if_neg c3, if_pos c2]
        · rw [decide_eq_false c2, Bool.and_false]
          simp (maxSteps := 2000000) (disch := omega) only [e121_1174, e121_1176, e121_1177, e121_1180, e121_1182, e121_1184, e121_1186, e121_1187, e121_1189, e121_1192, e121_1194, e121_1196, e121_1197, e121_1198, e121_1199, e121_1201, e121_1203, e121_1205, e121_1206, e121_1207, e121_1208, e121_1209, e121_1212, e121_1213, e121_1216, e121_1217, e121_1218, e121_1220, e121_1222, e121_1224, e121_1226, e121_1227, e121_1228, e121_1229, e121_1231, e121_1233, e121_1235, e121_1237, e121_1238, e121_1239, e121_1241, e121_1242, e121_1243, e121_1244, e121_1246, e121_1248, e121_1249, e121_1250, e121_1251, e121_1252, e121_1253, e121_1256, e121_1257, e121_1260, e121_1261, e121_1262, e121_1264, e121_1267, i0, klt, sz_tdiv, d1, d2, hz, k1, rd, hidx, rd2, rd3, e0, e2, e3, hk1, sz_bz1, sz_bz0, Option.bind_some, sz_lt0, sz_lt, sz_0lt, sz_mul, sz_add, sz_sub, sz_eq0, sz_eq, sz_nat, List.length_map, nb0, nb1, bz_eq0, ↓reduceIte, Int.reduceEq, Int.reduceLT, Int.reduceAdd, Int.reduceSub, Int.reduceMul, Int.reduceNeg]
          rw [if_neg c3, if_neg c2]
end SXM
