/-! THE CONSTRUCTORS: what they make, and how much -/
/-- a heap that keeps all but A, and has d cells and e slots more -/
def sx_gr (A : Nat → Prop) (d e : Nat) (h h1 : sx_H) : Prop := sx_kp A h h1 ∧ h1.1.length = h.1.length + d ∧ h1.2 = h.2 + e
theorem sx_gr.refl {A : Nat → Prop} (h : sx_H) : sx_gr A 0 0 h h := ⟨sx_kp.refl h, rfl, rfl⟩
theorem sx_gr.trans {A : Nat → Prop} {d e d2 e2 : Nat} {h h1 h2 : sx_H} (g1 : sx_gr A d e h h1) (g2 : sx_gr A d2 e2 h1 h2) : sx_gr A (d + d2) (e + e2) h h2 := ⟨g1.1.trans g2.1, by rw [g2.2.1, g1.2.1]; omega, by rw [g2.2.2, g1.2.2]; omega⟩
theorem sx_gr.mono {A B : Nat → Prop} {d e : Nat} {h h1 : sx_H} (g1 : sx_gr A d e h h1) (hAB : ∀ a, A a → B a) : sx_gr B d e h h1 := ⟨g1.1.mono hAB, g1.2⟩
theorem sx_gr.cast {A : Nat → Prop} {d e d2 e2 : Nat} {h h1 : sx_H} (g1 : sx_gr A d e h h1) (hd : d = d2) (he : e = e2) : sx_gr A d2 e2 h h1 := by subst hd; subst he; exact g1
theorem sx_gr.push {A : Nat → Prop} (h : sx_H) (c : Option sx_C) (n : Nat) : sx_gr A 1 n h (sx_push h c n) := ⟨sx_kp.push h c n, by simp [sx_push], rfl⟩
theorem sx_gr.set {A : Nat → Prop} {h : sx_H} {a : Nat} {c x : sx_C} (e : sx_get h a = some x) (hA : A a) : sx_gr A 0 0 h (sx_set h a c) := ⟨sx_kp.set e hA, by simp [sx_set], rfl⟩
theorem sx_gr.nw {A : Nat → Prop} {d e : Nat} {h h1 : sx_H} (g : sx_gr A d e h h1) : sx_new h1 = sx_new h + d := by show h1.1.length + 2 = h.1.length + 2 + d; rw [g.2.1]; omega
/-- what stands stays out of a cell that is new -/
theorem sx_gr.of_new {A : Nat → Prop} {d e : Nat} {h h1 : sx_H} (g : sx_gr (fun a => A a ∨ sx_new h ≤ a) d e h h1) : sx_gr A d e h h1 :=
  ⟨⟨g.1.1, g.1.2.1, fun a c ha e => g.1.2.2 a c (fun q => q.elim ha fun q => by have := (sx_get_lt e).2; omega) e⟩, g.2⟩
theorem sx_nwz {n : Nat} (h : n ≤ 60000) : (65536 < n) = False := propext ⟨fun q => by omega, fun q => q.elim⟩
theorem sx_nwi (n : Nat) : ((n : Int) < 0) = False := propext ⟨fun q => by omega, fun q => q.elim⟩
theorem sx_repl (n : Nat) : List.replicate n (0 : Int32) = (List.replicate n (0 : Int)).map sz := by rw [List.map_replicate]; rfl
/-- a new thing, put into a field -/
theorem sx_al {h : sx_H} {a ci f n : Nat} {fs : List Value} {c : sx_C} (e : sx_get h a = some (.inr (.inr (ci, fs)))) (hf : f < fs.length) : ∃ h1, sx_fst (sx_push h (some c) n) a ci f (.ref (sx_new h)) = some h1 ∧ sx_get h1 a = some (.inr (.inr (ci, fs.set f (.ref (sx_new h))))) ∧ sx_get h1 (sx_new h) = some c ∧ sx_gr (· = a) 1 n h h1 := by
  have e1 : sx_get (sx_push h (some c) n) a = _ := sx_get_push e
  have e2 : sx_get (sx_push h (some c) n) (sx_new h) = _ := sx_get_new
  refine ⟨_, sx_fst_of e1 hf, sx_get_set e1, sx_get_setn e2 (Nat.ne_of_lt (sx_get_lt e).2) (sx_get_lt e).1, ?_⟩
  exact (sx_gr.push h _ n).trans (sx_gr.set (A := (· = a)) e1 rfl)
/-- a field is set -/
theorem sx_pf {h : sx_H} {a ci f : Nat} {fs : List Value} {v : Value} (e : sx_get h a = some (.inr (.inr (ci, fs)))) (hf : f < fs.length) : ∃ h1, sx_fst h a ci f v = some h1 ∧ sx_get h1 a = some (.inr (.inr (ci, fs.set f v))) ∧ sx_gr (· = a) 0 0 h h1 :=
  ⟨_, sx_fst_of e hf, sx_get_set e, sx_gr.set (A := (· = a)) e rfl⟩
section SXI
variable {S : List Int32} {h : sx_H}
theorem m_kinds_i {a : Nat} (e : sx_get h a = some (.inr (.inr (2, sx_df 2)))) : ∃ h', sx_Cl S 52 [.ref a] h = some (.inl none, h') ∧
    sx_get h' a = some (.inr (.inr (2, [.ref (sx_new h), .ref (sx_new h + 1), .ref (sx_new h + 2), .ref (sx_new h + 3), .ref (sx_new h + 4), .int (sz 0)]))) ∧
    (∀ i : Nat, i < 5 → sx_get h' (sx_new h + i) = some (.inl ((List.replicate 8 (0 : Int)).map sz))) ∧ sx_gr (· = a) 5 40 h h' := by
  rw [← sx_repl]
  obtain ⟨h1, e1, x1, y1, g1⟩ := sx_al (f := 0) (n := 8) (c := .inl (List.replicate 8 0)) e (by decide)
  obtain ⟨h2, e2, x2, y2, g2⟩ := sx_al (f := 1) (n := 8) (c := .inl (List.replicate 8 0)) x1 (by exact (by decide : (1:Nat) < 6))
  obtain ⟨h3, e3, x3, y3, g3⟩ := sx_al (f := 2) (n := 8) (c := .inl (List.replicate 8 0)) x2 (by exact (by decide : (2:Nat) < 6))
  obtain ⟨h4, e4, x4, y4, g4⟩ := sx_al (f := 3) (n := 8) (c := .inl (List.replicate 8 0)) x3 (by exact (by decide : (3:Nat) < 6))
  obtain ⟨h5, e5, x5, y5, g5⟩ := sx_al (f := 4) (n := 8) (c := .inl (List.replicate 8 0)) x4 (by exact (by decide : (4:Nat) < 6))
  have n1 := g1.nw
  have n2 := g2.nw
  have n3 := g3.nw
  have n4 := g4.nw
  have hl := (sx_get_lt e).2
  refine ⟨h5, ?_, ?_, ?_, g1.trans (g2.trans (g3.trans (g4.trans g5)))⟩
  · have w := sx_nwz (n := 8) (by omega)
    have t : (sz 8).toNatClampNeg = 8 := by decide
    simp (disch := omega) only [c52_q, q52, t, w, or_false, e1, e2, e3, e4, e5, Option.bind_some, sz_lt0, sz_lt, sz_0lt, sz_mul, sz_add, sz_sub, sz_eq0, sz_eq, sz_nat, List.length_map, nb0, nb1, bz_eq0, ↓reduceIte, Int.reduceEq, Int.reduceLT, Int.reduceAdd, Int.reduceSub, Int.reduceMul, Int.reduceNeg]
  · rw [x5, n4, n3, n2, n1]
    rfl
  · intro i hi
    have k2 := g2.1.2.2 _ _ (by omega) y1
    have k3 := g3.1.2.2 _ _ (by omega) k2
    have k4 := g4.1.2.2 _ _ (by omega) k3
    have k5 := g5.1.2.2 _ _ (by omega) k4
    have j3 := g3.1.2.2 _ _ (by omega) y2
    have j4 := g4.1.2.2 _ _ (by omega) j3
    have j5 := g5.1.2.2 _ _ (by omega) j4
    have i4 := g4.1.2.2 _ _ (by omega) y3
    have i5 := g5.1.2.2 _ _ (by omega) i4
    have m5 := g5.1.2.2 _ _ (by omega) y4
    rcases (show i = 0 ∨ i = 1 ∨ i = 2 ∨ i = 3 ∨ i = 4 by omega) with q | q | q | q | q <;> subst q
    · exact k5
    · rw [← n1]; exact j5
    · rw [show sx_new h + 2 = sx_new h2 by omega]; exact i5
    · rw [show sx_new h + 3 = sx_new h3 by omega]; exact m5
    · rw [show sx_new h + 4 = sx_new h4 by omega]; exact y5
theorem m_strand_i {a : Nat} (e : sx_get h a = some (.inr (.inr (4, sx_df 4)))) : ∃ h', sx_Cl S 59 [.ref a] h = some (.inl none, h') ∧
    sx_get h' a = some (.inr (.inr (4, [.ref (sx_new h), .int (sz 0)]))) ∧ sx_gr (· = a) 1 144 h h' := by
  obtain ⟨h1, e1, x1, y1, g1⟩ := sx_al (f := 0) (n := 144) (c := .inl (List.replicate 144 0)) e (by decide)
  refine ⟨h1, ?_, x1, g1⟩
  have w := sx_nwz (n := 144) (by omega)
  have t : (sz 144).toNatClampNeg = 144 := by decide
  simp (disch := omega) only [c59_q, q59, t, w, or_false, e1, Option.bind_some, sz_lt0, sz_lt, sz_0lt, sz_mul, sz_add, sz_sub, sz_eq0, sz_eq, sz_nat, List.length_map, nb0, nb1, bz_eq0, ↓reduceIte, Int.reduceEq, Int.reduceLT, Int.reduceAdd, Int.reduceSub, Int.reduceMul, Int.reduceNeg]
theorem m_filler_i {a : Nat} (e : sx_get h a = some (.inr (.inr (1, sx_df 1)))) : ∃ h', sx_Cl S 40 [.ref a] h = some (.inl none, h') ∧
    sx_FV h' a (sx_new h) 0 (List.replicate 6 0) ∧ sx_gr (· = a) 1 6 h h' := by
  obtain ⟨h1, e1, x1, y1, g1⟩ := sx_al (f := 0) (n := 6) (c := .inl (List.replicate 6 0)) e (by decide)
  refine ⟨h1, ?_, ⟨x1, y1.trans (by rw [sx_repl]), rfl⟩, g1⟩
  have w := sx_nwz (n := 6) (by omega)
  have t : (sz 6).toNatClampNeg = 6 := by decide
  simp (disch := omega) only [c40_q, q40, t, w, or_false, e1, Option.bind_some, sz_lt0, sz_lt, sz_0lt, sz_mul, sz_add, sz_sub, sz_eq0, sz_eq, sz_nat, List.length_map, nb0, nb1, bz_eq0, ↓reduceIte, Int.reduceEq, Int.reduceLT, Int.reduceAdd, Int.reduceSub, Int.reduceMul, Int.reduceNeg]
/-- the words: each colour's own number -/
def sx_words : List Int := (List.range 24).map fun i : Nat => ((i % 8 : Nat) : Int)
theorem m_words_l {a b : Nat} (hab : a ≠ b) : ∀ (n i : Nat) (xs : List Int) (h : sx_H), sx_get h a = some (.inr (.inr (5, [.ref b]))) → sx_get h b = some (.inl (xs.map sz)) → xs.length = 24 → (∀ j, j < i → xs.getD j 0 = ((j % 8 : Nat) : Int)) → i + n = 24 →
    ∃ h', sx_Ev S 62 14 [some (.ref a), some (.int (sz i))] [] h = some (.inl none, h') ∧ sx_get h' a = some (.inr (.inr (5, [.ref b]))) ∧ sx_get h' b = some (.inl (sx_words.map sz)) ∧ sx_gr (· = b) 0 0 h h' := by
  intro n
  induction n with
  | zero =>
    intro i xs h ha hb hl hx hi
    have f0 := sx_fld_of (f := 0) ha rfl
    have i0 := sx_ints_of (S := S) hb
    refine ⟨h, ?_, ha, ?_, sx_gr.refl h⟩
    · rw [h62_14]
      simp (disch := omega) only [q62, f0, i0, hl, Option.bind_some, sz_lt0, sz_lt, sz_0lt, sz_mul, sz_add, sz_sub, sz_eq0, sz_eq, sz_nat, List.length_map, nb0, nb1, bz_eq0, ↓reduceIte, Int.reduceEq, Int.reduceLT, Int.reduceAdd, Int.reduceSub, Int.reduceMul, Int.reduceNeg]
      rw [if_neg (by omega)]
    · rw [hb]
      have : xs = sx_words := by
        refine List.ext_getElem (by rw [hl]; rfl) fun j h1 h2 => ?_
        have := hx j (by omega)
        rw [List.getD_eq_getElem?_getD, List.getElem?_eq_getElem h1] at this
        simp only [sx_words, List.getElem_map, List.getElem_range]
        exact this
      rw [this]
  | succ n ih =>
    intro i xs h ha hb hl hx hi
    have f0 := sx_fld_of (f := 0) ha rfl
    have i0 := sx_ints_of (S := S) hb
    have hi1 : (i : Int) + 1 = ((i + 1 : Nat) : Int) := by omega
    have w := sx_wr_of (x := (i : Int)) (v := (i : Int) - (i : Int).tdiv 8 * 8) hb (by omega) (by omega)
    have hm : (i : Int) - (i : Int).tdiv 8 * 8 = ((i % 8 : Nat) : Int) := by
      rw [Int.tdiv_eq_ediv_of_nonneg (by omega)]; omega
    obtain ⟨h', e1, e2, e3, e4⟩ := ih (i + 1) (xs.set i ((i % 8 : Nat) : Int)) (sx_set h b (.inl ((xs.set i ((i % 8 : Nat) : Int)).map sz))) (sx_get_setn ha (Ne.symm hab) (sx_get_lt hb).1) (sx_get_set hb) (by rw [List.length_set]; exact hl) (fun j hj => by
      rw [List.getD_eq_getElem?_getD, List.getElem?_set]
      by_cases q : i = j
      · subst q
        rw [if_pos rfl, if_pos (by omega)]
        rfl
      · rw [if_neg q, ← List.getD_eq_getElem?_getD]
        exact hx j (by omega)) (by omega)
    rw [hm, show (i : Int).toNat = i by omega] at w
    refine ⟨h', ?_, e2, e3, (sx_gr.set (A := (· = b)) hb rfl).trans e4⟩
    rw [h62_14]
    simp (disch := omega) only [q62, f0, i0, hl, hi1, sz_tdiv, hm, w, Option.bind_some, sz_lt0, sz_lt, sz_0lt, sz_mul, sz_add, sz_sub, sz_eq0, sz_eq, sz_nat, List.length_map, nb0, nb1, bz_eq0, ↓reduceIte, Int.reduceEq, Int.reduceLT, Int.reduceAdd, Int.reduceSub, Int.reduceMul, Int.reduceNeg]
    rw [if_pos (by omega)]
    exact e1
theorem m_words_i {a : Nat} (e : sx_get h a = some (.inr (.inr (5, sx_df 5)))) : ∃ h', sx_Cl S 62 [.ref a] h = some (.inl none, h') ∧
    sx_get h' a = some (.inr (.inr (5, [.ref (sx_new h)]))) ∧ sx_get h' (sx_new h) = some (.inl (sx_words.map sz)) ∧ sx_gr (· = a) 1 24 h h' := by
  obtain ⟨h1, e1, x1, y1, g1⟩ := sx_al (f := 0) (n := 24) (c := .inl (List.replicate 24 0)) e (by decide)
  have hl := (sx_get_lt e).2
  obtain ⟨h2, e2, x2, y2, g2⟩ := m_words_l (S := S) (a := a) (b := sx_new h) (by omega) 24 0 (List.replicate 24 0) h1 x1 (y1.trans (by rw [sx_repl])) rfl (fun j hj => by omega) rfl
  refine ⟨h2, ?_, x2, y2, sx_gr.of_new ((g1.mono fun b q => Or.inl q).trans (g2.mono fun b q => Or.inr (by omega)))⟩
  have w := sx_nwz (n := 24) (by omega)
  have t : (sz 24).toNatClampNeg = 24 := by decide
  simp (disch := omega) only [c62_q, q62, t, w, or_false, e1, Option.bind_some, sz_lt0, sz_lt, sz_0lt, sz_mul, sz_add, sz_sub, sz_eq0, sz_eq, sz_nat, List.length_map, nb0, nb1, bz_eq0, ↓reduceIte, Int.reduceEq, Int.reduceLT, Int.reduceAdd, Int.reduceSub, Int.reduceMul, Int.reduceNeg]
  exact e2
theorem m_word {a b : Nat} (ha : sx_get h a = some (.inr (.inr (5, [.ref b])))) (hb : sx_get h b = some (.inl (sx_words.map sz))) {r k : Int} (hr : 0 ≤ r ∧ r < 3) (hk : 0 ≤ k ∧ k < 8) : sx_Cl S 64 [.ref a, .int (sz r), .int (sz k)] h = some (.inl (some (.int (sz k))), h) := by
  have f0 := sx_fld_of (f := 0) ha rfl
  have n0 := nb0
  have n1 := nb1
  have hw : sx_Cl S 63 [.int (sz r), .int (sz k)] h = some (.inl (some (.int (sz 1))), h) := by
    simp (disch := omega) only [c63_q, q63, Option.bind_some, sz_lt0, sz_lt, sz_0lt, sz_mul, sz_add, sz_sub, sz_eq0, sz_eq, sz_nat, List.length_map, nb0, nb1, bz_eq0, ↓reduceIte, Int.reduceEq, Int.reduceLT, Int.reduceAdd, Int.reduceSub, Int.reduceMul, Int.reduceNeg]
    rw [if_neg (by omega), if_pos (by omega), if_neg (by omega), if_pos (by omega)]
  have w := sx_rd_of (S := S) (x := r * 8 + k) hb (by show 0 ≤ r * 8 + k ∧ r * 8 + k < ((24 : Nat) : Int); omega) (by decide)
  have e : sx_words.getD (r * 8 + k).toNat 0 = k := by
    rw [List.getD_eq_getElem?_getD, sx_words, List.getElem?_map, List.getElem?_range (by omega)]
    simp only [Option.map_some, Option.getD_some]
    omega
  rw [e] at w
  simp (disch := omega) only [c64_q, q64, hw, f0, w, Option.bind_some, sz_lt0, sz_lt, sz_0lt, sz_mul, sz_add, sz_sub, sz_eq0, sz_eq, sz_nat, List.length_map, nb0, nb1, bz_eq0, ↓reduceIte, Int.reduceEq, Int.reduceLT, Int.reduceAdd, Int.reduceSub, Int.reduceMul, Int.reduceNeg]
end SXI
