/-! THE WORKSHOP: what it is made of, and its state -/
def sx_cs (n : Nat) : List Int := sx_cols.take n ++ List.replicate (8 - n) 0
/-- the Kinds, n of them -/
def sx_KB (h : sx_H) (n : Nat) (ws : List Int) : Prop := sx_get h 3 = some (.inr (.inr (2, [.ref 4, .ref 5, .ref 6, .ref 7, .ref 8, .int (sz n)]))) ∧ sx_get h 4 = some (.inl ((sx_cs n).map sz)) ∧ sx_get h 5 = some (.inl (ws.map sz)) ∧ ws.length = 8 ∧
  (∃ hs : List Int, hs.length = 8 ∧ sx_get h 6 = some (.inl (hs.map sz))) ∧ (∃ ps : List Int, ps.length = 8 ∧ sx_get h 7 = some (.inl (ps.map sz))) ∧ sx_get h 8 = some (.inl ((List.replicate 8 (0 : Int)).map sz))
def sx_bf (m : Nat) (tl : Int) : List Value := [.ref 3, .ref 9, .ref 10, .ref 11, .ref 13, .ref 15, .int (sz m), .int (sz 0), .int (sz tl), .int (sz 0), .int (sz 0), .int (sz 0)]
def sx_CL (L : List (Nat × Clo)) : List (Option Nat) := L.map (fun x => some x.1) ++ List.replicate (6 - L.length) none
/-- the workshop: n kinds, tl of thread, the widths ws, the cloths L -/
def sx_BV (h : sx_H) (n : Nat) (tl : Int) (ws : List Int) (L : List (Nat × Clo)) : Prop :=
  sx_get h 2 = some (.inr (.inr (6, sx_bf L.length tl))) ∧ sx_get h 9 = some (.inr (.inl (0, sx_CL L))) ∧ sx_KB h n ws ∧ sx_get h 11 = some (.inr (.inr (4, [.ref 12, .int (sz 0)]))) ∧
  (sx_get h 13 = some (.inr (.inr (5, [.ref 14]))) ∧ sx_get h 14 = some (.inl (sx_words.map sz))) ∧ (∃ m es, sx_FV h 15 16 m es) ∧
  L.length ≤ 6 ∧ (∀ (i c : Nat) (C : Clo), L[i]? = some (c, C) → 17 ≤ c ∧ c + 7 ≤ sx_new h ∧ sx_CV h 3 c (c + 3) (c + 4) C) ∧ (∀ (i j c : Nat) (C : Clo) (d : Nat) (D : Clo), i < j → L[i]? = some (c, C) → L[j]? = some (d, D) → c + 7 ≤ d) ∧ 17 ≤ sx_new h
/-- a new object, made by its constructor, is put into a field -/
theorem sx_no {S : List Int32} {h h1 : sx_H} {a ci f cj n d e k : Nat} {fs df : List Value} (e0 : sx_get h a = some (.inr (.inr (ci, fs)))) (hf : f < fs.length) (hc : sx_Cl S k [.ref (sx_new h)] (sx_push h (some (.inr (.inr (cj, df)))) n) = some (.inl none, h1)) (g : sx_gr (· = sx_new h) d e (sx_push h (some (.inr (.inr (cj, df)))) n) h1) :
    ∃ h2, sx_fst h1 a ci f (.ref (sx_new h)) = some h2 ∧ sx_get h2 a = some (.inr (.inr (ci, fs.set f (.ref (sx_new h))))) ∧ sx_gr (· = a) 0 0 h1 h2 ∧ sx_gr (· = a) (1 + d) (n + e) h h2 := by
  have hl := (sx_get_lt e0).2
  have e1 : sx_get (sx_push h (some (.inr (.inr (cj, df)))) n) a = _ := sx_get_push e0
  have e2 := g.1.2.2 _ _ (by omega) e1
  obtain ⟨h2, p1, p2, p3⟩ := sx_pf (f := f) (v := .ref (sx_new h)) e2 hf
  refine ⟨h2, p1, p2, p3, ?_⟩
  have g0 : sx_gr (· = a) 1 n h (sx_push h (some (.inr (.inr (cj, df)))) n) := sx_gr.push h _ n
  have g1 := (g0.mono fun b q => Or.inl q).trans (g.mono (B := fun b => b = a ∨ sx_new h ≤ b) fun b (q : b = sx_new h) => Or.inr (by omega))
  exact ((sx_gr.of_new g1).trans p3).cast (by omega) (by omega)
theorem m_bead_i {S : List Int32} {h : sx_H} (e : sx_get h 2 = some (.inr (.inr (6, sx_df 6)))) (hn : sx_new h = 3) : ∃ h', sx_Cl S 65 [.ref 2] h = some (.inl none, h') ∧
    sx_BV h' 0 0 (List.replicate 8 0) [] ∧ sx_gr (· = 2) 14 235 h h' := by
  -- kinds
  have eK : sx_get (sx_push h (some (.inr (.inr (2, sx_df 2)))) (sx_N 2)) 3 = some (.inr (.inr (2, sx_df 2))) := hn ▸ sx_get_new
  have nK : sx_new (sx_push h (some (.inr (.inr (2, sx_df 2)))) (sx_N 2)) = 4 := by rw [(sx_gr.push (A := (· = 2)) h _ _).nw, hn]
  obtain ⟨h1, c1, k1, k2, g1⟩ := m_kinds_i (S := S) eK
  rw [nK] at k1 k2
  rw [← hn] at c1 g1
  obtain ⟨h2, p2, x2, q2, t2⟩ := sx_no (f := 0) e (by exact (by decide : (0:Nat) < 12)) c1 g1
  rw [hn] at c1 g1 p2 x2
  have n2 : sx_new h2 = 9 := by rw [t2.nw, hn]
  -- the cloths
  obtain ⟨h3, p3, x3, y3, t3⟩ := sx_al (f := 1) (n := 6) (c := .inr (.inl (0, List.replicate 6 none))) x2 (by exact (by decide : (1:Nat) < 12))
  have n3 : sx_new h3 = 10 := by rw [t3.nw, n2]
  rw [n2] at p3 x3 y3
  obtain ⟨h4, p4, x4, y4, t4⟩ := sx_al (f := 2) (n := 4) (c := .inr (.inl (1, List.replicate 4 none))) x3 (by exact (by decide : (2:Nat) < 12))
  have n4 : sx_new h4 = 11 := by rw [t4.nw, n3]
  rw [n3] at p4 x4 y4
  -- the strand
  have eS : sx_get (sx_push h4 (some (.inr (.inr (4, sx_df 4)))) (sx_N 4)) 11 = some (.inr (.inr (4, sx_df 4))) := n4 ▸ sx_get_new
  have nS : sx_new (sx_push h4 (some (.inr (.inr (4, sx_df 4)))) (sx_N 4)) = 12 := by rw [(sx_gr.push (A := (· = 2)) h4 _ _).nw, n4]
  obtain ⟨h5, c5, k5, g5⟩ := m_strand_i (S := S) eS
  rw [nS] at k5
  rw [← n4] at c5 g5
  obtain ⟨h6, p6, x6, q6, t6⟩ := sx_no (f := 3) x4 (by exact (by decide : (3:Nat) < 12)) c5 g5
  rw [n4] at c5 g5 p6 x6
  have n6 : sx_new h6 = 13 := by rw [t6.nw, n4]
  -- the words
  have eW : sx_get (sx_push h6 (some (.inr (.inr (5, sx_df 5)))) (sx_N 5)) 13 = some (.inr (.inr (5, sx_df 5))) := n6 ▸ sx_get_new
  have nW : sx_new (sx_push h6 (some (.inr (.inr (5, sx_df 5)))) (sx_N 5)) = 14 := by rw [(sx_gr.push (A := (· = 2)) h6 _ _).nw, n6]
  obtain ⟨h7, c7, k7, w7, g7⟩ := m_words_i (S := S) eW
  rw [nW] at k7 w7
  rw [← n6] at c7 g7
  obtain ⟨h8, p8, x8, q8, t8⟩ := sx_no (f := 4) x6 (by exact (by decide : (4:Nat) < 12)) c7 g7
  rw [n6] at c7 g7 p8 x8
  have n8 : sx_new h8 = 15 := by rw [t8.nw, n6]
  -- the filler
  have eF : sx_get (sx_push h8 (some (.inr (.inr (1, sx_df 1)))) (sx_N 1)) 15 = some (.inr (.inr (1, sx_df 1))) := n8 ▸ sx_get_new
  have nF : sx_new (sx_push h8 (some (.inr (.inr (1, sx_df 1)))) (sx_N 1)) = 16 := by rw [(sx_gr.push (A := (· = 2)) h8 _ _).nw, n8]
  obtain ⟨h9, c9, k9, g9⟩ := m_filler_i (S := S) eF
  rw [nF] at k9
  rw [← n8] at c9 g9
  obtain ⟨ha, pa, xa, qa, ta⟩ := sx_no (f := 5) x8 (by exact (by decide : (5:Nat) < 12)) c9 g9
  rw [n8] at c9 g9 pa xa
  have r3 : sx_gr (· = 2) _ _ h2 h3 := t3
  have r24 := t3.trans t4
  have r2a := t3.trans (t4.trans (t6.trans (t8.trans ta)))
  have r3a := t4.trans (t6.trans (t8.trans ta))
  have r6a := t8.trans ta
  have rall := t2.trans r2a
  refine ⟨ha, ?_, ⟨?_, ?_, ⟨?_, ?_, ?_, List.length_replicate, ⟨List.replicate 8 0, List.length_replicate, ?_⟩, ⟨List.replicate 8 0, List.length_replicate, ?_⟩, ?_⟩, ?_, ⟨?_, ?_⟩, ⟨_, _, k9.kp qa.1 (by decide) (by decide)⟩, by simp, ?_, ?_, by rw [rall.nw, hn]; decide⟩, rall.cast rfl rfl⟩
  · have w6 := sx_nwz (n := 6) (by omega)
    have w4 := sx_nwz (n := 4) (by omega)
    have t6' : (sz 6).toNatClampNeg = 6 := by decide
    have t4' : (sz 4).toNatClampNeg = 4 := by decide
    simp (disch := omega) only [c65_q, q65, hn, c1, p2, n2, n3, n4, t6', t4', w6, w4, or_false, p3, p4, c5, p6, n6, c7, p8, n8, c9, pa, Option.bind_some, sz_lt0, sz_lt, sz_0lt, sz_mul, sz_add, sz_sub, sz_eq0, sz_eq, sz_nat, List.length_map, nb0, nb1, bz_eq0, ↓reduceIte, Int.reduceEq, Int.reduceLT, Int.reduceAdd, Int.reduceSub, Int.reduceMul, Int.reduceNeg]
  · rw [xa]
    rfl
  · exact r3a.1.2.2 _ _ (by decide) y3
  · exact (q2.trans r2a).1.2.2 _ _ (by decide) k1
  · exact (q2.trans r2a).1.2.2 _ _ (by decide) (k2 0 (by decide))
  · exact (q2.trans r2a).1.2.2 _ _ (by decide) (k2 1 (by decide))
  · exact (q2.trans r2a).1.2.2 _ _ (by decide) (k2 2 (by decide))
  · exact (q2.trans r2a).1.2.2 _ _ (by decide) (k2 3 (by decide))
  · exact (q2.trans r2a).1.2.2 _ _ (by decide) (k2 4 (by decide))
  · exact (q6.trans r6a).1.2.2 _ _ (by decide) k5
  · exact (q8.trans ta).1.2.2 _ _ (by decide) k7
  · exact (q8.trans ta).1.2.2 _ _ (by decide) w7
  · intro i c C hi
    simp at hi
  · intro i j c C d D hij hi
    simp at hi
section SXB
variable {S : List Int32} {h h1 : sx_H} {n : Nat} {tl : Int} {ws : List Int} {L : List (Nat × Clo)} {P : Nat → Prop}
theorem sx_KB.kp (hK : sx_KB h n ws) (hk : sx_kp P h h1) (hP : ∀ a, 3 ≤ a → a ≤ 8 → ¬ P a) : sx_KB h1 n ws := by
  obtain ⟨e1, e2, e3, e4, ⟨hs, e5, e6⟩, ⟨ps, e7, e8⟩, e9⟩ := hK
  exact ⟨hk.2.2 _ _ (hP _ (by decide) (by decide)) e1, hk.2.2 _ _ (hP _ (by decide) (by decide)) e2, hk.2.2 _ _ (hP _ (by decide) (by decide)) e3, e4, ⟨hs, e5, hk.2.2 _ _ (hP _ (by decide) (by decide)) e6⟩, ⟨ps, e7, hk.2.2 _ _ (hP _ (by decide) (by decide)) e8⟩, hk.2.2 _ _ (hP _ (by decide) (by decide)) e9⟩
theorem sx_KB.kv (hK : sx_KB h 4 ws) : sx_KV h 3 4 5 ws := by
  obtain ⟨e1, e2, e3, e4, -⟩ := hK
  exact ⟨⟨_, _, _, e1⟩, e2, e3, e4⟩
theorem sx_kp.nw (hk : sx_kp P h h1) : sx_new h ≤ sx_new h1 := Nat.add_le_add_right hk.1 2
/-- nothing of the workshop has changed -/
theorem sx_BV.kp (hB : sx_BV h n tl ws L) (hk : sx_kp P h h1) (hP : ∀ a, a < 17 → ¬ P a) (hL : ∀ (i c : Nat) (C : Clo), L[i]? = some (c, C) → ¬ P c ∧ ¬ P (c + 3) ∧ ¬ P (c + 4)) : sx_BV h1 n tl ws L := by
  have hnw := hk.nw
  obtain ⟨e1, e2, e3, e4, ⟨e5, e6⟩, ⟨m, es, e7⟩, e8, e9, ea, eb⟩ := hB
  refine ⟨hk.2.2 _ _ (hP _ (by decide)) e1, hk.2.2 _ _ (hP _ (by decide)) e2, e3.kp hk (fun a _ _ => hP a (by omega)), hk.2.2 _ _ (hP _ (by decide)) e4, ⟨hk.2.2 _ _ (hP _ (by decide)) e5, hk.2.2 _ _ (hP _ (by decide)) e6⟩, ⟨m, es, e7.kp hk (hP _ (by decide)) (hP _ (by decide))⟩, e8, fun i c C hi => ⟨(e9 i c C hi).1, by have := (e9 i c C hi).2.1; omega, ?_⟩, ea, by omega⟩
  obtain ⟨q1, q2, q3⟩ := hL i c C hi
  exact (e9 i c C hi).2.2.kp hk q1 q2 q3
/-- nothing at all has changed, but new things have been made -/
theorem sx_BV.new (hB : sx_BV h n tl ws L) (hk : sx_kp (fun _ => False) h h1) : sx_BV h1 n tl ws L := hB.kp hk (fun _ _ q => q) (fun _ _ _ _ => ⟨id, id, id⟩)
theorem sx_BV.exc (hB : sx_BV h n tl ws L) : sx_BV (sx_push h none 6) n tl ws L := hB.new (sx_kp.push h none 6)
/-- one cloth has changed, and the filler perhaps -/
theorem sx_BV.upd (hB : sx_BV h n tl ws L) {i c : Nat} {C D : Clo} (hi : L[i]? = some (c, C)) (hk : sx_kp P h h1) (hP : ∀ a, P a → a = c ∨ a = c + 3 ∨ a = c + 4 ∨ a = 15 ∨ a = 16) (hF : ∃ m es, sx_FV h1 15 16 m es) (hD : sx_CV h1 3 c (c + 3) (c + 4) D) : sx_BV h1 n tl ws (L.set i (c, D)) := by
  have hnw := hk.nw
  obtain ⟨e1, e2, e3, e4, ⟨e5, e6⟩, -, e8, e9, ea, eb⟩ := hB
  have hcn := (e9 i c C hi).2.1
  have hc := (e9 i c C hi).1
  have hil := (List.getElem?_eq_some_iff.mp hi).1
  have hnP : ∀ a, a < 15 → ¬ P a := fun a ha q => by have := hP a q; omega
  have hset : ∀ (j d : Nat) (E : Clo), (L.set i (c, D))[j]? = some (d, E) → (j = i ∧ d = c ∧ E = D) ∨ (j ≠ i ∧ L[j]? = some (d, E)) := by
    intro j d E hj
    rw [List.getElem?_set] at hj
    by_cases q : i = j
    · subst q
      rw [if_pos rfl, if_pos hil] at hj
      cases hj
      exact Or.inl ⟨rfl, rfl, rfl⟩
    · rw [if_neg q] at hj
      exact Or.inr ⟨Ne.symm q, hj⟩
  have hmap : sx_CL (L.set i (c, D)) = sx_CL L := by
    unfold sx_CL
    rw [List.length_set, List.map_set]
    congr 1
    refine List.ext_getElem? fun j => ?_
    rw [List.getElem?_set]
    by_cases q : i = j
    · subst q
      rw [if_pos rfl, if_pos (by rw [List.length_map]; exact hil), List.getElem?_map, hi]
      rfl
    · rw [if_neg q]
  refine ⟨by rw [List.length_set]; exact hk.2.2 _ _ (hnP _ (by decide)) e1, by rw [hmap]; exact hk.2.2 _ _ (hnP _ (by decide)) e2, e3.kp hk (fun a _ _ => hnP a (by omega)), hk.2.2 _ _ (hnP _ (by decide)) e4, ⟨hk.2.2 _ _ (hnP _ (by decide)) e5, hk.2.2 _ _ (hnP _ (by decide)) e6⟩, hF, by rw [List.length_set]; exact e8, ?_, ?_, by omega⟩
  · intro j d E hj
    rcases hset j d E hj with ⟨q1, q2, q3⟩ | ⟨q1, q2⟩
    · subst q2; subst q3; exact ⟨hc, by omega, hD⟩
    · have hd := (e9 j d E q2).1
      have hd2 := (e9 j d E q2).2.1
      have hdis : d + 7 ≤ c ∨ c + 7 ≤ d := by
        rcases Nat.lt_or_ge j i with r | r
        · exact Or.inl (ea j i d E c C r q2 hi)
        · exact Or.inr (ea i j c C d E (by omega) hi q2)
      exact ⟨hd, by omega, (e9 j d E q2).2.2.kp hk (fun q => by have := hP _ q; omega) (fun q => by have := hP _ q; omega) (fun q => by have := hP _ q; omega)⟩
  · intro j k d E f G hjk hj hk'
    rcases hset j d E hj with ⟨q1, q2, q3⟩ | ⟨q1, q2⟩ <;> rcases hset k f G hk' with ⟨r1, r2, r3⟩ | ⟨r1, r2⟩
    · omega
    · subst q1; subst q2; exact ea _ _ _ _ _ _ hjk hi r2
    · subst r1; subst r2; exact ea _ _ _ _ _ _ hjk q2 hi
    · exact ea _ _ _ _ _ _ hjk q2 r2
end SXB
