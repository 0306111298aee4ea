/-! WHAT IS DRAWN KEEPS THE RULES: cell by cell -/
def Clo.cln (C : Clo) : Prop := (∀ r x d e : Int, (d = -1 ∨ d = 0 ∨ d = 1) → (e = -1 ∨ e = 0 ∨ e = 1) → C.two C.ru r x d e = false) ∧ (C.ru / 4 % 2 = 1 → ∀ r x : Int, C.three r x = false) ∧ (C.ru / 8 % 2 = 1 → ∀ r x : Int, C.frame r x = false)
theorem bz0 {b : Bool} : bz b = 0 ↔ b = false := by cases b <;> simp [bz]
theorem Clo.g_in {C : Clo} {r x : Int} (h : C.g r x ≠ -1) : (0 ≤ r ∧ r < C.nr) ∧ (0 ≤ x ∧ x < C.nc) := by
  unfold Clo.g at h
  by_cases q : (0 ≤ r ∧ r < C.nr) ∧ (0 ≤ x ∧ x < C.nc)
  · exact q
  · rw [if_neg q] at h; exact absurd rfl h
theorem Clo.two_g {C : Clo} {ru r x d e : Int} (h : C.two ru r x d e = true) : C.g r x ≠ -1 ∧ C.g r x = C.g (r + d) (x + e) ∧ ((ru % 2 = 1 ∧ C.nb r x d e = true) ∨ (ru / 2 % 2 = 1 ∧ C.sl (C.nb r x d e) d e = true)) := by
  unfold Clo.two at h
  rw [Bool.and_eq_true, Bool.or_eq_true, Bool.and_eq_true, Bool.and_eq_true] at h
  obtain ⟨h1, h2⟩ := h
  have h1 := of_decide_eq_true h1
  refine ⟨h1.1, h1.2, ?_⟩
  rcases h2 with h2 | h2
  · exact Or.inl ⟨of_decide_eq_true h2.1, h2.2⟩
  · exact Or.inr ⟨of_decide_eq_true h2.1, h2.2⟩
theorem Clo.two_of {C : Clo} {ru r x d e : Int} (h1 : C.g r x ≠ -1 ∧ C.g r x = C.g (r + d) (x + e)) (h2 : (ru % 2 = 1 ∧ C.nb r x d e = true) ∨ (ru / 2 % 2 = 1 ∧ C.sl (C.nb r x d e) d e = true)) : C.two ru r x d e = true := by
  unfold Clo.two
  rw [decide_eq_true h1, Bool.true_and, Bool.or_eq_true, Bool.and_eq_true, Bool.and_eq_true]
  rcases h2 with h2 | h2
  · exact Or.inl ⟨decide_eq_true h2.1, h2.2⟩
  · exact Or.inr ⟨decide_eq_true h2.1, h2.2⟩
theorem Clo.twos_0 {C : Clo} {ru r x : Int} : C.twos ru r x = 0 ↔ ∀ d e : Int, (d = -1 ∨ d = 0 ∨ d = 1) → (e = -1 ∨ e = 0 ∨ e = 1) → C.two ru r x d e = false := by
  have b (d e : Int) := bz_bd (C.two ru r x d e)
  have b1 := b (-1) (-1)
  have b2 := b (-1) 0
  have b3 := b (-1) 1
  have b4 := b 0 (-1)
  have b5 := b 0 0
  have b6 := b 0 1
  have b7 := b 1 (-1)
  have b8 := b 1 0
  have b9 := b 1 1
  unfold Clo.twos
  constructor
  · intro h d e hd he
    rw [← bz0]
    rcases hd with q | q | q <;> rcases he with p | p | p <;> subst q <;> subst p <;> omega
  · intro h
    have z (d e : Int) (hd : d = -1 ∨ d = 0 ∨ d = 1) (he : e = -1 ∨ e = 0 ∨ e = 1) := bz0.mpr (h d e hd he)
    rw [z (-1) (-1) (by omega) (by omega), z (-1) 0 (by omega) (by omega), z (-1) 1 (by omega) (by omega), z 0 (-1) (by omega) (by omega), z 0 0 (by omega) (by omega), z 0 1 (by omega) (by omega), z 1 (-1) (by omega) (by omega), z 1 0 (by omega) (by omega), z 1 1 (by omega) (by omega)]
    rfl
theorem Clo.cnt_0 {C : Clo} (rule : Int) : C.cnt rule = 0 ↔ ∀ r x : Nat, r < C.nr → x < C.nc → C.cell rule r x = 0 := by
  have nn : ∀ r : Nat, 0 ≤ nsum (fun x => C.cell rule r x) 0 C.nc := fun r => by
    have := nsum_bd (f := fun x : Nat => C.cell rule r x) (a := 0) (b := 9) (by omega) (by omega) C.nc 0 (fun j _ _ => C.cell_bd rule r j)
    omega
  constructor
  · intro h r x hr hx
    have h1 := nsum_eq0 (f := fun r : Nat => nsum (fun x => C.cell rule r x) 0 C.nc) nn C.nr 0 h r (Nat.zero_le _) (by omega)
    exact nsum_eq0 (f := fun x : Nat => C.cell rule r x) (fun j => (C.cell_bd rule r j).1) C.nc 0 h1 x (Nat.zero_le _) (by omega)
  · intro h
    exact nsum_0 _ _ fun r _ hr => nsum_0 _ _ fun x _ hx => h r x (by omega) (by omega)
theorem Clo.br_0 {C : Clo} (hC : C.ok) {rule : Int} (hr : rule = 1 ∨ rule = 2 ∨ rule = 4 ∨ rule = 8) : C.br rule = 0 ↔ ∀ r x : Nat, r < C.nr → x < C.nc → C.cell rule r x = 0 := by
  rw [← C.cnt_0]
  by_cases q : rule = 1 ∨ rule = 2
  · rw [← C.lbr_br hC hr, C.cnt_two hC q]; omega
  · unfold Clo.br
    rw [if_neg q]
theorem Clo.two_12 {C : Clo} {ru r x d e : Int} : C.two ru r x d e = false ↔ (ru % 2 = 1 → C.two 1 r x d e = false) ∧ (ru / 2 % 2 = 1 → C.two 2 r x d e = false) := by
  have n1 : ∀ b : Bool, b = false ↔ ¬ b = true := fun b => by cases b <;> simp
  rw [n1, n1, n1]
  constructor
  · intro h
    refine ⟨fun q p => h ?_, fun q p => h ?_⟩
    · obtain ⟨p1, p2, p3⟩ := C.two_g p
      exact C.two_of ⟨p1, p2⟩ (Or.inl ⟨q, p3.elim (fun z => z.2) (fun z => absurd z.1 (by omega))⟩)
    · obtain ⟨p1, p2, p3⟩ := C.two_g p
      exact C.two_of ⟨p1, p2⟩ (Or.inr ⟨q, p3.elim (fun z => absurd z.1 (by omega)) (fun z => z.2)⟩)
  · intro ⟨h1, h2⟩ p
    obtain ⟨p1, p2, p3⟩ := C.two_g p
    rcases p3 with z | z
    · exact h1 z.1 (C.two_of ⟨p1, p2⟩ (Or.inl ⟨rfl, z.2⟩))
    · exact h2 z.1 (C.two_of ⟨p1, p2⟩ (Or.inr ⟨rfl, z.2⟩))
theorem Clo.br_two {C : Clo} (hC : C.ok) {rule : Int} (hr : rule = 1 ∨ rule = 2) : C.br rule = 0 ↔ ∀ r x d e : Int, (d = -1 ∨ d = 0 ∨ d = 1) → (e = -1 ∨ e = 0 ∨ e = 1) → C.two rule r x d e = false := by
  rw [C.br_0 hC (by omega)]
  have hcell : ∀ r x : Int, C.cell rule r x = C.twos rule r x := fun r x => by unfold Clo.cell; rw [if_neg (by omega), if_neg (by omega)]
  constructor
  · intro h r x d e hd he
    by_cases q : C.two rule r x d e = true
    · obtain ⟨⟨r1, r2⟩, x1, x2⟩ := C.g_in (C.two_g q).1
      have := h r.toNat x.toNat (by omega) (by omega)
      rw [hcell, show ((r.toNat : Nat) : Int) = r by omega, show ((x.toNat : Nat) : Int) = x by omega] at this
      exact C.twos_0.mp this d e hd he
    · simpa using q
  · intro h r x _ _
    rw [hcell]
    exact C.twos_0.mpr fun d e hd he => h r x d e hd he
theorem Clo.br_three {C : Clo} (hC : C.ok) : C.br 4 = 0 ↔ ∀ r x : Int, C.three r x = false := by
  rw [C.br_0 hC (by omega)]
  have hcell : ∀ r x : Int, C.cell 4 r x = bz (C.three r x) := fun r x => by unfold Clo.cell; rw [if_pos rfl]
  constructor
  · intro h r x
    by_cases q : C.three r x = true
    · have q2 := q
      unfold Clo.three at q2
      obtain ⟨⟨r1, r2⟩, x1, x2⟩ := C.g_in (of_decide_eq_true q2).1
      have := h r.toNat x.toNat (by omega) (by omega)
      rw [hcell, show ((r.toNat : Nat) : Int) = r by omega, show ((x.toNat : Nat) : Int) = x by omega] at this
      exact bz0.mp this
    · simpa using q
  · intro h r x _ _
    rw [hcell]
    exact bz0.mpr (h r x)
theorem Clo.br_frame {C : Clo} (hC : C.ok) : C.br 8 = 0 ↔ ∀ r x : Int, C.frame r x = false := by
  rw [C.br_0 hC (by omega)]
  have hcell : ∀ r x : Int, C.cell 8 r x = bz (C.frame r x) := fun r x => by unfold Clo.cell; rw [if_neg (by omega), if_pos rfl]
  constructor
  · intro h r x
    by_cases q : C.frame r x = true
    · have q2 := q
      unfold Clo.frame at q2
      obtain ⟨⟨r1, r2⟩, x1, x2⟩ := C.g_in (of_decide_eq_true q2).2.2.1
      have := h r.toNat x.toNat (by omega) (by omega)
      rw [hcell, show ((r.toNat : Nat) : Int) = r by omega, show ((x.toNat : Nat) : Int) = x by omega] at this
      exact bz0.mp this
    · simpa using q
  · intro h r x _ _
    rw [hcell]
    exact bz0.mpr (h r x)
theorem Clo.own_cln {C : Clo} (hC : C.ok) : C.own = 0 ↔ C.cln := by
  have k1 := C.br_bd hC 1
  have k2 := C.br_bd hC 2
  have k4 := C.br_bd hC 4
  have k8 := C.br_bd hC 8
  have e : C.own = 0 ↔ ((C.ru % 2 = 1 → C.br 1 = 0) ∧ (C.ru / 2 % 2 = 1 → C.br 2 = 0)) ∧ (C.ru / 4 % 2 = 1 → C.br 4 = 0) ∧ (C.ru / 8 % 2 = 1 → C.br 8 = 0) := by
    unfold Clo.own
    have i0 : ∀ (p : Prop) [Decidable p] (b : Int), 0 ≤ b → ((if p then b else 0) = 0 ↔ (p → b = 0)) ∧ 0 ≤ (if p then b else 0) := fun p _ b hb => by
      by_cases q : p
      · rw [if_pos q]; exact ⟨⟨fun h _ => h, fun h => h q⟩, hb⟩
      · rw [if_neg q]; exact ⟨⟨fun _ z => absurd z q, fun _ => rfl⟩, Int.le_refl _⟩
    obtain ⟨a1, b1⟩ := i0 (C.ru % 2 = 1) (C.br 1) k1.1
    obtain ⟨a2, b2⟩ := i0 (C.ru / 2 % 2 = 1) (C.br 2) k2.1
    obtain ⟨a4, b4⟩ := i0 (C.ru / 4 % 2 = 1) (C.br 4) k4.1
    obtain ⟨a8, b8⟩ := i0 (C.ru / 8 % 2 = 1) (C.br 8) k8.1
    rw [← a1, ← a2, ← a4, ← a8]
    generalize (if C.ru % 2 = 1 then C.br 1 else 0) = u1 at *
    generalize (if C.ru / 2 % 2 = 1 then C.br 2 else 0) = u2 at *
    generalize (if C.ru / 4 % 2 = 1 then C.br 4 else 0) = u4 at *
    generalize (if C.ru / 8 % 2 = 1 then C.br 8 else 0) = u8 at *
    omega
  rw [e, C.br_two hC (rule := 1) (by omega), C.br_two hC (rule := 2) (by omega), C.br_three hC, C.br_frame hC]
  unfold Clo.cln
  constructor
  · intro ⟨⟨h1, h2⟩, h3, h4⟩
    exact ⟨fun r x d e hd he => C.two_12.mpr ⟨fun q => h1 q r x d e hd he, fun q => h2 q r x d e hd he⟩, h3, h4⟩
  · intro ⟨h1, h3, h4⟩
    exact ⟨⟨fun q r x d e hd he => (C.two_12.mp (h1 r x d e hd he)).1 q, fun q r x d e hd he => (C.two_12.mp (h1 r x d e hd he)).2 q⟩, h3, h4⟩
/-- a cell is written: the colours -/
theorem Clo.set_g {C : Clo} (hC : C.ok) {r0 x0 : Nat} (hr : r0 < C.nr) (hx : x0 < C.nc) (v : Int) (r x : Int) : (C.set ((r0 * C.nc + x0 : Nat) : Int) v).g r x = if r = r0 ∧ x = x0 then kcol v else C.g r x := by
  have hlt : r0 * C.nc + x0 < C.ks.length := by rw [hC.2.2.1]; exact rx_lt hr hx
  by_cases hin : (0 ≤ r ∧ r < C.nr) ∧ (0 ≤ x ∧ x < C.nc)
  · obtain ⟨r', rfl⟩ : ∃ n : Nat, r = n := ⟨r.toNat, by omega⟩
    obtain ⟨x', rfl⟩ : ∃ n : Nat, x = n := ⟨x.toNat, by omega⟩
    rw [g_gk (C := C.set ((r0 * C.nc + x0 : Nat) : Int) v) (show r' < C.nr by omega) (show x' < C.nc by omega), g_gk (C := C) (by omega) (by omega)]
    unfold Clo.gk
    show kcol ((C.set ((r0 * C.nc + x0 : Nat) : Int) v).ks.getD (r' * C.nc + x') 0) = _
    rw [ks_set hlt]
    by_cases q : r' = r0 ∧ x' = x0
    · rw [if_pos (by rw [q.1, q.2]), if_pos (by omega)]
    · rw [if_neg (fun z => q ?_), if_neg (by omega)]
      have e1 := nat_rx (r := r0) hx
      have e2 := nat_rx (r := r') (x := x') (nc := C.nc) (by omega)
      rw [z] at e1
      exact ⟨e2.1.symm.trans e1.1, e2.2.symm.trans e1.2⟩
  · have e1 : C.g r x = -1 := by unfold Clo.g; rw [if_neg hin]
    have e2 : (C.set ((r0 * C.nc + x0 : Nat) : Int) v).g r x = -1 := by
      unfold Clo.g
      exact if_neg hin
    rw [e1, e2, if_neg (by omega)]
theorem Clo.nb_sym {C : Clo} (hC : C.ok) {r x d e : Int} (hd : d = -1 ∨ d = 0 ∨ d = 1) (he : e = -1 ∨ e = 0 ∨ e = 1) (hr : 0 ≤ r ∧ 0 ≤ r + d) (hx : 0 ≤ x ∧ 0 ≤ x + e) : C.nb r x d e = C.nb (r + d) (x + e) (-d) (-e) ∧ ∀ b, C.sl b d e = C.sl b (-d) (-e) := by
  constructor
  · rw [← lnb_nb C hd he, ← lnb_nb C (d := -d) (e := -e) (by omega) (by omega)]
    exact lnb_sym hC.2.2.2.2.2 hr hx
  · intro b
    rw [← lsl_sl C hC.2.2.2.2.2 b hd he, ← lsl_sl C hC.2.2.2.2.2 b (d := -d) (e := -e) (by omega) (by omega)]
    exact lsl_sym b
theorem Clo.two_sym {C : Clo} (hC : C.ok) {ru r x d e : Int} (hd : d = -1 ∨ d = 0 ∨ d = 1) (he : e = -1 ∨ e = 0 ∨ e = 1) (h : C.two ru r x d e = true) : C.two ru (r + d) (x + e) (-d) (-e) = true := by
  obtain ⟨h1, h2, h3⟩ := C.two_g h
  obtain ⟨⟨r1, r2⟩, x1, x2⟩ := C.g_in h1
  obtain ⟨⟨r3, r4⟩, x3, x4⟩ := C.g_in (r := r + d) (x := x + e) (by rw [← h2]; exact h1)
  obtain ⟨s1, s2⟩ := C.nb_sym hC hd he ⟨r1, r3⟩ ⟨x1, x3⟩
  refine C.two_of ⟨by rw [← h2]; exact h1, ?_⟩ ?_
  · rw [show r + d + -d = r by omega, show x + e + -e = x by omega]; exact h2.symm
  · rw [← s1, ← s2]; exact h3
/-- a new bead keeps the rules, together with what is drawn, iff what is drawn keeps them and it breaks none -/
theorem Clo.locl {C : Clo} (hC : C.ok) {r0 x0 : Nat} (hr : r0 < C.nr) (hx : x0 < C.nc) (hk : C.ks.getD (r0 * C.nc + x0) 0 = -1) {v : Int} (hv : 0 ≤ v ∧ v < 4) :
    (C.set ((r0 * C.nc + x0 : Nat) : Int) v).cln ↔ C.cln ∧ (C.set ((r0 * C.nc + x0 : Nat) : Int) v).bad r0 x0 = false := by
  have hok := Clo.set_ok hC ((r0 * C.nc + x0 : Nat) : Int) (k := v) (by omega)
  have hg := C.set_g hC hr hx v
  have hg0 : C.g r0 x0 = -1 := by rw [g_gk hr hx]; unfold Clo.gk; rw [hk]; rfl
  obtain ⟨D, hD⟩ : ∃ D, C.set ((r0 * C.nc + x0 : Nat) : Int) v = D := ⟨_, rfl⟩
  have hru : D.ru = C.ru := by rw [← hD]; rfl
  have hnb : ∀ r x d e, D.nb r x d e = C.nb r x d e := fun r x d e => by rw [← hD]; rfl
  have hsl : ∀ b d e, D.sl b d e = C.sl b d e := fun b d e => by rw [← hD]; rfl
  have hnr : D.nr = C.nr := by rw [← hD]; rfl
  have hnc : D.nc = C.nc := by rw [← hD]; rfl
  rw [hD] at hg hok ⊢
  have hrub := hC.2.2.2.2.1
  have n1 : ∀ b : Bool, b = false ↔ ¬ b = true := fun b => by cases b <;> simp
  -- what C breaks, D breaks
  have same : ∀ r x, C.g r x ≠ -1 → D.g r x = C.g r x := fun r x q => by
    rw [hg, if_neg]
    intro z
    rw [z.1, z.2] at q
    exact q hg0
  have up2 : ∀ r x d e, C.two C.ru r x d e = true → D.two D.ru r x d e = true := fun r x d e q => by
    obtain ⟨h1, h2, h3⟩ := C.two_g q
    refine D.two_of ⟨by rw [same _ _ h1]; exact h1, by rw [same _ _ h1, same _ _ (by rw [← h2]; exact h1)]; exact h2⟩ ?_
    rw [hru, hnb, hsl]
    exact h3
  have up4 : ∀ r x, C.three r x = true → D.three r x = true := fun r x q => by
    unfold Clo.three at q ⊢
    have q := of_decide_eq_true q
    refine decide_eq_true ?_
    rw [same r x q.1, same r (x + 1) (by rw [← q.2.1]; exact q.1), same r (x + 2) (by rw [← q.2.2]; exact q.1)]
    exact q
  have up8 : ∀ r x, C.frame r x = true → D.frame r x = true := fun r x q => by
    unfold Clo.frame at q ⊢
    have q := of_decide_eq_true q
    refine decide_eq_true ?_
    rw [hnr, hnc, same 0 0 q.2.1, same r x q.2.2.1]
    exact q
  have bad_iff : D.bad r0 x0 = false ↔ (D.ru % 4 ≠ 0 → D.twos D.ru r0 x0 = 0) ∧ (D.ru / 4 % 2 = 1 → D.three r0 ((x0 : Int) - 2) = false ∧ D.three r0 ((x0 : Int) - 1) = false ∧ D.three r0 x0 = false) ∧ (D.ru / 8 % 2 = 1 → if (r0 : Int) = 0 ∧ (x0 : Int) = 0 then D.br 8 = 0 else D.frame r0 x0 = false) := by
    have ht := D.twos_bd D.ru r0 x0
    have hb8 := D.br_bd hok 8
    unfold Clo.bad
    rw [Bool.or_eq_false_iff, Bool.or_eq_false_iff, Bool.and_eq_false_iff, Bool.and_eq_false_iff, Bool.and_eq_false_iff, Bool.or_eq_false_iff, Bool.or_eq_false_iff, decide_eq_false_iff_not, decide_eq_false_iff_not, decide_eq_false_iff_not, decide_eq_false_iff_not, and_assoc]
    refine and_congr ?_ (and_congr ?_ ?_)
    · constructor
      · intro h q; rcases h with h | h <;> omega
      · intro h
        by_cases q : D.ru % 4 ≠ 0
        · exact Or.inr (by rw [h q]; omega)
        · exact Or.inl q
    · constructor
      · intro h q
        rcases h with h | h
        · exact absurd q h
        · exact ⟨h.1.1, h.1.2, h.2⟩
      · intro h
        by_cases q : D.ru / 4 % 2 = 1
        · exact Or.inr ⟨⟨(h q).1, (h q).2.1⟩, (h q).2.2⟩
        · exact Or.inl q
    · constructor
      · intro h q
        rcases h with h | h
        · exact absurd q h
        · by_cases z : (r0 : Int) = 0 ∧ (x0 : Int) = 0
          · rw [if_pos z] at h ⊢
            have := of_decide_eq_false h
            omega
          · rw [if_neg z] at h ⊢
            exact h
      · intro h
        by_cases q : D.ru / 8 % 2 = 1
        · refine Or.inr ?_
          have h := h q
          by_cases z : (r0 : Int) = 0 ∧ (x0 : Int) = 0
          · rw [if_pos z] at h ⊢
            exact decide_eq_false (by omega)
          · rw [if_neg z] at h ⊢
            exact h
        · exact Or.inl q
  rw [bad_iff]
  constructor
  · intro ⟨h1, h2, h3⟩
    refine ⟨⟨fun r x d e hd he => ?_, fun q r x => ?_, fun q r x => ?_⟩, fun q => D.twos_0.mpr fun d e hd he => h1 _ _ d e hd he, fun q => ⟨h2 q _ _, h2 q _ _, h2 q _ _⟩, fun q => ?_⟩
    · have := h1 r x d e hd he
      rw [n1] at this ⊢
      exact fun z => this (up2 _ _ _ _ z)
    · have := h2 (by rw [hru]; exact q) r x
      rw [n1] at this ⊢
      exact fun z => this (up4 _ _ z)
    · have := h3 (by rw [hru]; exact q) r x
      rw [n1] at this ⊢
      exact fun z => this (up8 _ _ z)
    · split
      · exact (D.br_frame hok).mpr fun r x => h3 q r x
      · exact h3 q _ _
  · intro ⟨⟨h1, h2, h3⟩, b1, b2, b3⟩
    have other : ∀ r x, ¬ (r = (r0 : Int) ∧ x = (x0 : Int)) → D.g r x = C.g r x := fun r x q => by rw [hg, if_neg q]
    refine ⟨fun r x d e hd he => ?_, fun q r x => ?_, fun q r x => ?_⟩
    · rw [n1]
      intro t
      obtain ⟨t1, t2, t3⟩ := D.two_g t
      have hru4 : D.ru % 4 ≠ 0 := by rcases t3 with z | z <;> omega
      have tw := D.twos_0.mp (b1 hru4)
      by_cases c1 : r = (r0 : Int) ∧ x = (x0 : Int)
      · have := tw d e hd he
        rw [← c1.1, ← c1.2, t] at this
        cases this
      · by_cases c2 : r + d = (r0 : Int) ∧ x + e = (x0 : Int)
        · have s := D.two_sym hok hd he t
          have := tw (-d) (-e) (by omega) (by omega)
          rw [← c2.1, ← c2.2, s] at this
          cases this
        · have := h1 r x d e hd he
          rw [n1] at this
          refine this (C.two_of ⟨by rw [← other _ _ c1]; exact t1, by rw [← other _ _ c1, ← other _ _ c2]; exact t2⟩ ?_)
          rw [← hru, ← hnb, ← hsl]
          exact t3
    · rw [n1]
      intro t
      have t' := t
      unfold Clo.three at t'
      have t' := of_decide_eq_true t'
      obtain ⟨c1, c2, c3⟩ := b2 q
      by_cases k1 : r = (r0 : Int) ∧ x = (x0 : Int)
      · rw [← k1.1, ← k1.2, t] at c3; cases c3
      · by_cases k2 : r = (r0 : Int) ∧ x + 1 = (x0 : Int)
        · rw [← k2.1, show (x0 : Int) - 1 = x by omega, t] at c2; cases c2
        · by_cases k3 : r = (r0 : Int) ∧ x + 2 = (x0 : Int)
          · rw [← k3.1, show (x0 : Int) - 2 = x by omega, t] at c1; cases c1
          · have := h2 (by rw [← hru]; exact q) r x
            rw [n1] at this
            refine this ?_
            unfold Clo.three
            refine decide_eq_true ?_
            rw [← other r x k1, ← other r (x + 1) k2, ← other r (x + 2) k3]
            exact t'
    · rw [n1]
      intro t
      have t' := t
      unfold Clo.frame at t'
      have t' := of_decide_eq_true t'
      have c := b3 q
      by_cases k0 : (r0 : Int) = 0 ∧ (x0 : Int) = 0
      · rw [if_pos k0] at c
        have := (D.br_frame hok).mp c r x
        rw [t] at this; cases this
      · rw [if_neg k0] at c
        by_cases k1 : r = (r0 : Int) ∧ x = (x0 : Int)
        · rw [← k1.1, ← k1.2, t] at c; cases c
        · have := h3 (by rw [← hru]; exact q) r x
          rw [n1] at this
          refine this ?_
          unfold Clo.frame
          refine decide_eq_true ?_
          rw [← other r x k1, ← other 0 0 (fun z => k0 ⟨z.1.symm, z.2.symm⟩), ← hnr, ← hnc]
          exact t'
