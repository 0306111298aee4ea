/-! NUMBERS: the machine's ints as integers -/
theorem sz_add (a b : Int) : sz a + sz b = sz (a + b) := (Int32.ofInt_add a b).symm
theorem sz_sub (a b : Int) : sz a - sz b = sz (a - b) := (Int32.ofInt_sub a b).symm
theorem sz_mul (a b : Int) : sz a * sz b = sz (a * b) := (Int32.ofInt_mul a b).symm
theorem sz_0 : (0 : Int32) = sz 0 := rfl
theorem sz_toInt {a : Int} (h : -1000000000 ≤ a ∧ a ≤ 1000000000) : (sz a).toInt = a := Int32.toInt_ofInt_of_le (by omega) (by omega)
theorem sz_lt {a b : Int} (ha : -1000000000 ≤ a ∧ a ≤ 1000000000) (hb : -1000000000 ≤ b ∧ b ≤ 1000000000) : (sz a < sz b) = (a < b) := by
  rw [Int32.lt_iff_toInt_lt, sz_toInt ha, sz_toInt hb]
theorem sz_eq {a b : Int} (ha : -1000000000 ≤ a ∧ a ≤ 1000000000) (hb : -1000000000 ≤ b ∧ b ≤ 1000000000) : (sz a = sz b) = (a = b) := by
  refine propext ⟨fun h => ?_, fun h => by rw [h]⟩
  have := congrArg Int32.toInt h
  rwa [sz_toInt ha, sz_toInt hb] at this
theorem sz_lt0 {a : Int} (ha : -1000000000 ≤ a ∧ a ≤ 1000000000) : (sz a < 0) = (a < 0) := sz_lt (b := 0) ha (by omega)
theorem sz_0lt {a : Int} (ha : -1000000000 ≤ a ∧ a ≤ 1000000000) : (0 < sz a) = (0 < a) := sz_lt (a := 0) (by omega) ha
theorem sz_eq0 {a : Int} (ha : -1000000000 ≤ a ∧ a ≤ 1000000000) : (sz a = 0) = (a = 0) := sz_eq (b := 0) ha (by omega)
theorem sz_nat (n : Nat) : Int32.ofNat n = sz n := (Int32.ofInt_eq_ofNat).symm
theorem sz_clamp {a : Int} (h : 0 ≤ a ∧ a ≤ 1000000000) : (sz a).toNatClampNeg = a.toNat := by
  rw [Int32.toNatClampNeg, sz_toInt (by omega)]
theorem sz_tdiv {a b : Int} (ha : -1000000000 ≤ a ∧ a ≤ 1000000000) (hb : -1000000000 ≤ b ∧ b ≤ 1000000000) : sz a / sz b = sz (a.tdiv b) := by
  have e1 : Int32.minValue.toInt = -2147483648 := by decide
  have e2 : Int32.maxValue.toInt = 2147483647 := by decide
  exact (Int32.ofInt_tdiv (by omega) (by omega) (by omega) (by omega)).symm
/-! THE HEAP -/
theorem sx_get_lt {h : sx_H} {a : Nat} {c : sx_C} (e : sx_get h a = some c) : 2 ≤ a ∧ a < sx_new h := by
  obtain ⟨i, rfl, h1⟩ := sx_get_some e
  have := (List.getElem?_eq_some_iff.mp h1).1
  unfold sx_new
  omega
theorem sx_get_push {h : sx_H} {a n : Nat} {c : Option sx_C} {x : sx_C} (e : sx_get h a = some x) : sx_get (sx_push h c n) a = some x := by
  obtain ⟨i, rfl, h1⟩ := sx_get_some e
  have hl := (List.getElem?_eq_some_iff.mp h1).1
  show (match (h.1 ++ [c])[i]? with | some (some c) => some c | _ => none) = some x
  rw [List.getElem?_append_left hl, h1]
theorem sx_get_new {h : sx_H} {n : Nat} {c : sx_C} : sx_get (sx_push h (some c) n) (sx_new h) = some c := by
  show (match (h.1 ++ [some c])[h.1.length]? with | some (some c) => some c | _ => none) = some c
  rw [List.getElem?_append_right (Nat.le_refl _), Nat.sub_self]
  rfl
theorem sx_get_set {h : sx_H} {a : Nat} {c x : sx_C} (e : sx_get h a = some x) : sx_get (sx_set h a c) a = some c := by
  obtain ⟨i, rfl, h1⟩ := sx_get_some e
  show (match (h.1.set i (some c))[i]? with | some (some c) => some c | _ => none) = some c
  rw [List.getElem?_set_self (List.getElem?_eq_some_iff.mp h1).1]
theorem sx_get_setn {h : sx_H} {a b : Nat} {c x : sx_C} (e : sx_get h b = some x) (hne : a ≠ b) (ha : 2 ≤ a) : sx_get (sx_set h a c) b = some x := by
  obtain ⟨i, rfl, h1⟩ := sx_get_some e
  show (match (h.1.set (a - 2) (some c))[i]? with | some (some c) => some c | _ => none) = some x
  rw [List.getElem?_set_ne (by omega), h1]
/-- what a heap keeps: all cells that stand, but those of A; it may grow -/
def sx_kp (A : Nat → Prop) (h h1 : sx_H) : Prop := h.1.length ≤ h1.1.length ∧ h.2 ≤ h1.2 ∧ ∀ (a : Nat) (c : sx_C), ¬ A a → sx_get h a = some c → sx_get h1 a = some c
theorem sx_kp.refl {A : Nat → Prop} (h : sx_H) : sx_kp A h h := ⟨Nat.le_refl _, Nat.le_refl _, fun _ _ _ e => e⟩
theorem sx_kp.trans {A : Nat → Prop} {h h1 h2 : sx_H} (e1 : sx_kp A h h1) (e2 : sx_kp A h1 h2) : sx_kp A h h2 := ⟨Nat.le_trans e1.1 e2.1, Nat.le_trans e1.2.1 e2.2.1, fun a c ha e => e2.2.2 a c ha (e1.2.2 a c ha e)⟩
theorem sx_kp.mono {A B : Nat → Prop} {h h1 : sx_H} (e1 : sx_kp A h h1) (hAB : ∀ a, A a → B a) : sx_kp B h h1 := ⟨e1.1, e1.2.1, fun a c ha e => e1.2.2 a c (fun q => ha (hAB a q)) e⟩
theorem sx_kp.push {A : Nat → Prop} (h : sx_H) (c : Option sx_C) (n : Nat) : sx_kp A h (sx_push h c n) := ⟨by simp [sx_push], by simp [sx_push], fun a x _ e => sx_get_push e⟩
theorem sx_kp.set {A : Nat → Prop} {h : sx_H} {a : Nat} {c x : sx_C} (e : sx_get h a = some x) (hA : A a) : sx_kp A h (sx_set h a c) :=
  ⟨by simp [sx_set], Nat.le_refl _, fun b y hb e2 => sx_get_setn e2 (fun q => hb (q ▸ hA)) (sx_get_lt e).1⟩
theorem sx_obj_of {h : sx_H} {a ci : Nat} {fs : List Value} (e : sx_get h a = some (.inr (.inr (ci, fs)))) : sx_obj h a = some (ci, fs) := by
  unfold sx_obj; rw [e]
theorem sx_fld_of {h : sx_H} {a ci f : Nat} {fs : List Value} {v : Value} (e : sx_get h a = some (.inr (.inr (ci, fs)))) (hv : fs[f]? = some v) : sx_fld h a ci f = some v := by
  unfold sx_fld; rw [sx_obj_of e]; dsimp only; rw [if_pos rfl, hv]
theorem sx_fst_of {h : sx_H} {a ci f : Nat} {fs : List Value} {v : Value} (e : sx_get h a = some (.inr (.inr (ci, fs)))) (hf : f < fs.length) : sx_fst h a ci f v = some (sx_set h a (.inr (.inr (ci, fs.set f v)))) := by
  unfold sx_fst; rw [sx_obj_of e]; dsimp only; rw [if_pos ⟨rfl, hf⟩]
theorem sx_klass_of {h : sx_H} {a ci : Nat} {fs : List Value} (e : sx_get h a = some (.inr (.inr (ci, fs)))) : sx_klass h a = some ci := by
  unfold sx_klass; rw [sx_obj_of e]; rfl
theorem sx_ints_of {S : List Int32} {h : sx_H} {a : Nat} {xs : List Int32} (e : sx_get h a = some (.inl xs)) : sx_ints S h a = some xs := by
  have := (sx_get_lt e).1
  unfold sx_ints
  match a, this with
  | a + 2, _ => show (match sx_get h (a + 2) with | some (.inl xs) => some xs | _ => none) = _; rw [e]
theorem sx_rd_of {S : List Int32} {h : sx_H} {a : Nat} {xs : List Int} {x : Int} (e : sx_get h a = some (.inl (xs.map sz))) (hx : 0 ≤ x ∧ x < xs.length) (hl : xs.length ≤ 1000000000) : sx_rd S h a (sz x) = some (sz (xs.getD x.toNat 0)) := by
  unfold sx_rd
  rw [sx_ints_of e]
  dsimp only
  rw [sz_clamp (by omega), if_neg (by rw [List.length_map, sz_lt0 (by omega)]; omega), List.getD_eq_getElem?_getD, List.getElem?_map, List.getD_eq_getElem?_getD]
  cases xs[x.toNat]? <;> rfl
theorem sx_map_set (xs : List Int) (i : Nat) (v : Int) : (xs.map sz).set i (sz v) = (xs.set i v).map sz := (List.map_set).symm
theorem sx_wr_of {h : sx_H} {a : Nat} {xs : List Int} {x v : Int} (e : sx_get h a = some (.inl (xs.map sz))) (hx : 0 ≤ x ∧ x < xs.length) (hl : xs.length ≤ 1000000000) : sx_wr h a (sz x) (sz v) = some (sx_set h a (.inl ((xs.set x.toNat v).map sz))) := by
  unfold sx_wr
  rw [e]
  dsimp only
  rw [sz_clamp (by omega), if_neg (by rw [List.length_map, sz_lt0 (by omega)]; omega), sx_map_set]
/-- a boolean's number -/
def bz (b : Bool) : Int := if b = true then 1 else 0
theorem bz_t : bz true = 1 := rfl
theorem bz_f : bz false = 0 := rfl
theorem bz_eq0 (b : Bool) : (sz (bz b) = 0) = (b = false) := by
  cases b
  · exact propext ⟨fun _ => rfl, fun _ => rfl⟩
  · exact propext ⟨fun h => absurd h (by decide), fun h => by cases h⟩
theorem bz_bd (b : Bool) : 0 ≤ bz b ∧ bz b ≤ 1 := by cases b <;> decide
theorem nb0 : narrow .boolean (.int (sz 0)) = .int (sz 0) := rfl
theorem nb1 : narrow .boolean (.int (sz 1)) = .int (sz 1) := rfl
/-! KINDS: four of them, of the colours 0, 1, 2, 0 -/
/-- the colour of a kind -/
def kcol (k : Int) : Int := if 0 ≤ k ∧ k < 4 then k % 3 else -1
def sx_cols : List Int := [0, 1, 2, 0, 0, 0, 0, 0]
/-- the Kinds K with its colours at A and its widths at B -/
def sx_KV (h : sx_H) (K A B : Nat) (ws : List Int) : Prop := (∃ v2 v3 v4, sx_get h K = some (.inr (.inr (2, [.ref A, .ref B, v2, v3, v4, .int (sz 4)])))) ∧ sx_get h A = some (.inl (sx_cols.map sz)) ∧ sx_get h B = some (.inl (ws.map sz)) ∧ ws.length = 8
theorem m_has {S : List Int32} {h : sx_H} {K A B : Nat} {ws : List Int} (hK : sx_KV h K A B ws) {k : Int} (hk : -1000 ≤ k ∧ k ≤ 1000) : sx_Cl S 28 [.ref K, .int (sz k)] h = some (.inl (some (.int (sz (bz (decide (0 ≤ k ∧ k < 4)))))), h) := by
  obtain ⟨⟨v2, v3, v4, h1⟩, -, -, -⟩ := hK
  have f5 := sx_fld_of (f := 5) h1 rfl
  have n0 := nb0
  have n1 := nb1
  simp (disch := omega) only [c28_q, q28, f5, Option.bind_some, sz_lt0, sz_lt, sz_0lt, sz_mul, sz_add, sz_sub, sz_eq0, sz_eq, sz_nat, List.length_map, nb0, nb1, bz_eq0, ↓reduceIte, Int.reduceEq, Int.reduceLT, Int.reduceAdd, Int.reduceSub, Int.reduceMul, Int.reduceNeg]
  by_cases hin : 0 ≤ k ∧ k < 4
  · rw [decide_eq_true hin]
    simp (disch := omega) only [if_neg, if_pos, q28, bz_t]
  · rw [decide_eq_false hin]
    repeat' split
    all_goals first | rfl | omega
/-- a sum over n places from i on -/
def nsum (f : Nat → Int) : Nat → Nat → Int
  | _, 0 => 0
  | i, n + 1 => f i + nsum f (i + 1) n
theorem nsum_bd {f : Nat → Int} {a b : Int} (ha : a ≤ 0) (hb : 0 ≤ b) : ∀ (n i : Nat), (∀ j, i ≤ j → j < i + n → a ≤ f j ∧ f j ≤ b) → a * n ≤ nsum f i n ∧ nsum f i n ≤ b * n := by
  intro n
  induction n with
  | zero => intro i _; simp [nsum]
  | succ n ih =>
    intro i hf
    have h1 := hf i (Nat.le_refl _) (by omega)
    have h2 := ih (i + 1) (fun j h3 h4 => hf j (by omega) (by omega))
    have e1 : a * ((n + 1 : Nat) : Int) = a * n + a := by rw [Int.natCast_add, Int.mul_add]; simp
    have e2 : b * ((n + 1 : Nat) : Int) = b * n + b := by rw [Int.natCast_add, Int.mul_add]; simp
    show _ ≤ f i + nsum f (i + 1) n ∧ f i + nsum f (i + 1) n ≤ _
    omega
theorem nsum_eq {f g : Nat → Int} : ∀ (n i : Nat), (∀ j, i ≤ j → j < i + n → f j = g j) → nsum f i n = nsum g i n := by
  intro n
  induction n with
  | zero => intro i _; rfl
  | succ n ih =>
    intro i hf
    show f i + _ = g i + _
    rw [hf i (Nat.le_refl _) (by omega), ih (i + 1) (fun j h3 h4 => hf j (by omega) (by omega))]
