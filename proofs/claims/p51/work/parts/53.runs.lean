/-! THE MATHEMATICS of runs, and of guesses -/
theorem nsum_add (f : Nat → Int) : ∀ (n m i : Nat), nsum f i (n + m) = nsum f i n + nsum f (i + n) m := by
  intro n
  induction n with
  | zero => intro m i; simp [nsum]
  | succ n ih =>
    intro m i
    rw [show n + 1 + m = n + m + 1 by omega, nsum, nsum, ih m (i + 1), Int.add_assoc, show i + 1 + n = i + (n + 1) by omega]
theorem nsum_r' (f : Nat → Int) (n i : Nat) : nsum f i (n + 1) = nsum f i n + f (i + n) := by
  rw [nsum_add]; simp [nsum]
theorem nsum_rev (f : Nat → Int) (m : Nat) : ∀ n : Nat, n ≤ m → nsum (fun i => f (m - 1 - i)) 0 n = nsum f (m - n) n := by
  intro n
  induction n with
  | zero => intro _; rfl
  | succ n ih =>
    intro hn
    rw [nsum_r', ih (by omega), nsum, Int.add_comm, Nat.zero_add, show m - 1 - n = m - (n + 1) by omega, show m - (n + 1) + 1 = m - n by omega]
theorem nsum_bz_nn (f : Nat → Bool) (n i : Nat) : 0 ≤ nsum (fun j => bz (f j)) i n ∧ nsum (fun j => bz (f j)) i n ≤ n := by
  have := nsum_bd (f := fun j => bz (f j)) (a := 0) (b := 1) (by omega) (by omega) n i (fun j _ _ => bz_bd _)
  omega
theorem nth_hit (f : Nat → Bool) (w : Nat → Int) : ∀ (d i n : Nat), d < n → f (i + d) = true → nth f w (nsum (fun j => bz (f j)) i d) i n = w (i + d) := by
  intro d
  induction d with
  | zero =>
    intro i n hn hf
    obtain ⟨m, rfl⟩ : ∃ m, n = m + 1 := ⟨n - 1, by omega⟩
    rw [nth, nsum, if_pos (by simpa using hf), if_pos rfl]; rfl
  | succ d ih =>
    intro i n hn hf
    obtain ⟨m, rfl⟩ : ∃ m, n = m + 1 := ⟨n - 1, by omega⟩
    have h2 := ih (i + 1) m (by omega) (by rw [show i + 1 + d = i + (d + 1) by omega]; exact hf)
    have hb := (nsum_bz_nn f d (i + 1)).1
    rw [nth, nsum]
    cases e : f i
    · rw [if_neg (by simp), bz_f, Int.zero_add, h2, show i + 1 + d = i + (d + 1) by omega]
    · rw [if_pos rfl, bz_t, if_neg (by omega), show 1 + nsum (fun j => bz (f j)) (i + 1) d - 1 = nsum (fun j => bz (f j)) (i + 1) d by omega, h2, show i + 1 + d = i + (d + 1) by omega]
theorem nth_none (f : Nat → Bool) (w : Nat → Int) : ∀ (n i : Nat) (k : Int), nsum (fun j => bz (f j)) i n ≤ k → nth f w k i n = -1 := by
  intro n
  induction n with
  | zero => intro i k _; rfl
  | succ n ih =>
    intro i k hk
    rw [nsum] at hk
    have hb := (nsum_bz_nn f n (i + 1)).1
    rw [nth]
    cases e : f i
    · rw [if_neg (by simp)]
      rw [e, bz_f] at hk
      exact ih (i + 1) k (by omega)
    · rw [e, bz_t] at hk
      rw [if_pos rfl, if_neg (by omega)]
      exact ih (i + 1) (k - 1) (by omega)
theorem nfnd_hit (f : Nat → Bool) (d : Int) : ∀ (t i n : Nat), t < n → (∀ j, i ≤ j → j < i + t → f j = false) → f (i + t) = true → nfnd f d i n = ((i + t : Nat) : Int) := by
  intro t
  induction t with
  | zero =>
    intro i n hn _ hf
    obtain ⟨m, rfl⟩ : ∃ m, n = m + 1 := ⟨n - 1, by omega⟩
    rw [nfnd, if_pos (by simpa using hf)]; rfl
  | succ t ih =>
    intro i n hn h0 hf
    obtain ⟨m, rfl⟩ : ∃ m, n = m + 1 := ⟨n - 1, by omega⟩
    rw [nfnd, if_neg (by rw [h0 i (by omega) (by omega)]; simp), ih (i + 1) m (by omega) (fun j h1 h2 => h0 j (by omega) (by omega)) (by rw [show i + 1 + t = i + (t + 1) by omega]; exact hf), show i + 1 + t = i + (t + 1) by omega]
theorem nfnd_none (f : Nat → Bool) (d : Int) : ∀ (n i : Nat), (∀ j, i ≤ j → j < i + n → f j = false) → nfnd f d i n = d := by
  intro n
  induction n with
  | zero => intro i _; rfl
  | succ n ih =>
    intro i h0
    rw [nfnd, if_neg (by rw [h0 i (by omega) (by omega)]; simp), ih (i + 1) (fun j h1 h2 => h0 j (by omega) (by omega))]
theorem Clo.g_out (C : Clo) (r x : Int) (h : x < 0 ∨ C.nc ≤ x) : C.g r x = -1 := by
  unfold Clo.g
  rw [if_neg (by omega)]
theorem Clo.beg_f (C : Clo) (r x : Int) : C.beg r x false = decide (C.g r x ≠ -1 ∧ C.g r x ≠ C.g r (x - 1)) := by
  unfold Clo.beg; rw [if_neg (by simp)]
theorem Clo.beg_t (C : Clo) (r x : Int) : C.beg r x true = decide (C.g r x ≠ -1 ∧ C.g r x ≠ C.g r (x + 1)) := by
  unfold Clo.beg; rw [if_pos rfl]
/-- the ends behind a place are as many as the begins, and one more where a run goes on -/
theorem Clo.ends (C : Clo) (r : Int) : ∀ (n x : Nat), x + n = C.nc → nsum (fun y => bz (C.beg r y true)) x n = nsum (fun y => bz (C.beg r y false)) x n + bz (decide (C.g r x ≠ -1 ∧ C.g r ((x : Int) - 1) = C.g r x)) := by
  intro n
  induction n with
  | zero =>
    intro x hx
    rw [nsum, nsum, C.g_out r x (by omega), decide_eq_false (by omega)]; rfl
  | succ n ih =>
    intro x hx
    have e := ih (x + 1) (by omega)
    rw [nsum, nsum, e, C.beg_t, C.beg_f]
    rw [show ((x + 1 : Nat) : Int) - 1 = x by omega, show ((x + 1 : Nat) : Int) = (x : Int) + 1 by omega]
    generalize nsum (fun y => bz (C.beg r y false)) (x + 1) n = w
    generalize C.g r ((x : Int) + 1) = u
    generalize C.g r ((x : Int) - 1) = v
    generalize C.g r (x : Int) = z
    by_cases h1 : z = -1
    · rw [decide_eq_false (p := z ≠ -1 ∧ z ≠ u) (by omega), decide_eq_false (p := z ≠ -1 ∧ z ≠ v) (by omega), decide_eq_false (p := z ≠ -1 ∧ v = z) (by omega), decide_eq_false (p := u ≠ -1 ∧ z = u) (by omega)]
      simp [bz]
    · by_cases h2 : z = u <;> by_cases h3 : z = v
      · rw [decide_eq_false (p := z ≠ -1 ∧ z ≠ u) (by omega), decide_eq_false (p := z ≠ -1 ∧ z ≠ v) (by omega), decide_eq_true (p := z ≠ -1 ∧ v = z) (by omega), decide_eq_true (p := u ≠ -1 ∧ z = u) (by omega)]
        simp only [bz_t, bz_f]; omega
      · rw [decide_eq_false (p := z ≠ -1 ∧ z ≠ u) (by omega), decide_eq_true (p := z ≠ -1 ∧ z ≠ v) (by omega), decide_eq_false (p := z ≠ -1 ∧ v = z) (by omega), decide_eq_true (p := u ≠ -1 ∧ z = u) (by omega)]
        simp only [bz_t, bz_f]; omega
      · rw [decide_eq_true (p := z ≠ -1 ∧ z ≠ u) (by omega), decide_eq_false (p := z ≠ -1 ∧ z ≠ v) (by omega), decide_eq_true (p := z ≠ -1 ∧ v = z) (by omega), decide_eq_false (p := u ≠ -1 ∧ z = u) (by omega)]
        simp only [bz_t, bz_f]; omega
      · rw [decide_eq_true (p := z ≠ -1 ∧ z ≠ u) (by omega), decide_eq_true (p := z ≠ -1 ∧ z ≠ v) (by omega), decide_eq_false (p := z ≠ -1 ∧ v = z) (by omega), decide_eq_false (p := u ≠ -1 ∧ z = u) (by omega)]
        simp only [bz_t, bz_f]; omega
theorem Clo.frun_l (C : Clo) (r : Int) {b : Nat} (hb : b < C.nc) (hf : C.beg r b false = true) : C.frun r (nsum (fun y => bz (C.beg r y false)) 0 b) false = b := by
  have := nth_hit (fun i => C.beg r (C.col false i) false) (C.col false) b 0 C.nc hb (by rw [Nat.zero_add]; exact hf)
  rw [Nat.zero_add] at this
  exact this
theorem Clo.frun_r (C : Clo) (r : Int) {x : Nat} (hx : x < C.nc) (hf : C.beg r x true = true) : C.frun r (C.runs r - nsum (fun y => bz (C.beg r y false)) 0 (x + 1)) true = x := by
  have e1 : C.runs r - nsum (fun y => bz (C.beg r y false)) 0 (x + 1) = nsum (fun y => bz (C.beg r y false)) (x + 1) (C.nc - 1 - x) := by
    have : C.runs r = nsum (fun y => bz (C.beg r y false)) 0 (x + 1 + (C.nc - 1 - x)) := by rw [show x + 1 + (C.nc - 1 - x) = C.nc by omega]; rfl
    rw [this, nsum_add, Nat.zero_add]
    omega
  have hf2 := hf
  rw [C.beg_t] at hf2
  have hf2 := of_decide_eq_true hf2
  have e2 := C.ends r (C.nc - 1 - x) (x + 1) (by omega)
  rw [show ((x + 1 : Nat) : Int) - 1 = x by omega, decide_eq_false (by rw [show ((x + 1 : Nat) : Int) = (x : Int) + 1 by omega]; omega), bz_f, Int.add_zero] at e2
  have hcol : ∀ i : Nat, i < C.nc → C.col true i = ((C.nc - 1 - i : Nat) : Int) := fun i hi => by unfold Clo.col; rw [if_pos rfl]; omega
  have e3 : nsum (fun i => bz (C.beg r (C.col true i) true)) 0 (C.nc - 1 - x) = nsum (fun y => bz (C.beg r y true)) (x + 1) (C.nc - 1 - x) := by
    have e4 := nsum_rev (fun y => bz (C.beg r y true)) C.nc (C.nc - 1 - x) (by omega)
    rw [show C.nc - (C.nc - 1 - x) = x + 1 by omega] at e4
    rw [← e4]
    exact nsum_eq _ _ fun j _ hj => by rw [hcol j (by omega)]
  rw [e1, ← e2, ← e3]
  have := nth_hit (fun i => C.beg r (C.col true i) true) (C.col true) (C.nc - 1 - x) 0 C.nc (by omega) (by
    rw [Nat.zero_add]
    show C.beg r (C.col true (C.nc - 1 - x)) true = true
    rw [hcol _ (by omega), show C.nc - 1 - (C.nc - 1 - x) = x by omega]
    exact hf)
  refine this.trans ?_
  rw [Nat.zero_add, hcol _ (by omega)]
  omega
theorem Clo.frun_no (C : Clo) (r : Int) : C.frun r (C.runs r) false = -1 := nth_none _ _ C.nc 0 _ (Int.le_refl _)
theorem Clo.cells_l (C : Clo) (r : Int) {b x : Nat} (hb : b ≤ x ∧ x < C.nc) (h1 : ∀ y : Nat, b ≤ y → y ≤ x → C.g r y = C.g r b) (h2 : C.g r ((x : Int) + 1) ≠ C.g r b) : C.cells r b false = ((x + 1 - b : Nat) : Int) := by
  have hn : ∀ j : Nat, j < x + 1 - b → decide (C.g r (if false = true then (b : Int) - j else b + j) ≠ C.g r b) = false := fun j hj => by
    rw [if_neg (by simp)]
    refine decide_eq_false fun q => q ?_
    rw [show (b : Int) + j = ((b + j : Nat) : Int) by omega]
    exact h1 (b + j) (by omega) (by omega)
  unfold Clo.cells
  by_cases hlt : x + 1 - b ≤ C.nc - 1
  · have := nfnd_hit (fun j => decide (C.g r (if false = true then (b : Int) - j else b + j) ≠ C.g r b)) C.nc (x - b) 1 (C.nc - 1) (by omega) (fun j _ hj => hn j (by omega)) (by
      show decide _ = true
      rw [if_neg (by simp)]
      refine decide_eq_true ?_
      rw [show (b : Int) + ((1 + (x - b) : Nat) : Int) = (x : Int) + 1 by omega]
      exact h2)
    rw [this]; omega
  · rw [nfnd_none _ _ _ _ (fun j _ hj => hn j (by omega))]; omega
theorem Clo.cells_r (C : Clo) (r : Int) {b x : Nat} (hb : b ≤ x ∧ x < C.nc) (h1 : ∀ y : Nat, b ≤ y → y ≤ x → C.g r y = C.g r x) (h2 : C.g r ((b : Int) - 1) ≠ C.g r x) : C.cells r x true = ((x + 1 - b : Nat) : Int) := by
  have hn : ∀ j : Nat, j < x + 1 - b → decide (C.g r (if true = true then (x : Int) - j else x + j) ≠ C.g r x) = false := fun j hj => by
    rw [if_pos rfl]
    refine decide_eq_false fun q => q ?_
    rw [show (x : Int) - j = ((x - j : Nat) : Int) by omega]
    exact h1 (x - j) (by omega) (by omega)
  unfold Clo.cells
  by_cases hlt : x + 1 - b ≤ C.nc - 1
  · have := nfnd_hit (fun j => decide (C.g r (if true = true then (x : Int) - j else x + j) ≠ C.g r x)) C.nc (x - b) 1 (C.nc - 1) (by omega) (fun j _ hj => hn j (by omega)) (by
      show decide _ = true
      rw [if_pos rfl]
      refine decide_eq_true ?_
      rw [show (x : Int) - ((1 + (x - b) : Nat) : Int) = (b : Int) - 1 by omega]
      exact h2)
    rw [this]; omega
  · rw [nfnd_none _ _ _ _ (fun j _ hj => hn j (by omega))]; omega
theorem nbest3 (f : Nat → Int) (h0 : 0 ≤ f 0) (h1 : 0 ≤ f 1) (h2 : 0 ≤ f 2) (h3 : f 3 = 0 ∧ f 4 = 0 ∧ f 5 = 0 ∧ f 6 = 0 ∧ f 7 = 0) {p q : Int} (hp : p = if f 0 < f 1 then 1 else 0) (hq : q = if (if f 0 < f 1 then f 1 else f 0) < f 2 then 2 else p) :
    nbest f (-1) 0 0 8 = if (if q = 2 then f 2 else if q = 1 then f 1 else f 0) = 0 then -1 else q := by
  obtain ⟨e3, e4, e5, e6, e7⟩ := h3
  have t : ∀ (b m : Int), 0 ≤ m → nbest f b m 3 5 = b := fun b m hm => by
    simp only [nbest, e3, e4, e5, e6, e7]
    rw [if_neg (by omega), if_neg (by omega), if_neg (by omega), if_neg (by omega), if_neg (by omega)]
  have s2 : ∀ (b m : Int), 0 ≤ m → nbest f b m 2 6 = if m < f 2 then 2 else b := fun b m hm => by
    rw [nbest]
    split
    · exact t _ _ h2
    · exact t _ _ hm
  have s1 : ∀ (b m : Int), 0 ≤ m → nbest f b m 1 7 = if m < f 1 then (if f 1 < f 2 then 2 else 1) else (if m < f 2 then 2 else b) := fun b m hm => by
    rw [nbest]
    split
    · exact s2 _ _ h1
    · exact s2 _ _ hm
  have u : nbest f (-1) 0 0 8 = (if 0 < f 0 then (if f 0 < f 1 then (if f 1 < f 2 then 2 else 1) else (if f 0 < f 2 then 2 else 0)) else (if 0 < f 1 then (if f 1 < f 2 then 2 else 1) else (if 0 < f 2 then 2 else -1))) := by
    rw [nbest]
    split
    · exact s1 _ _ h0
    · exact s1 _ _ (Int.le_refl _)
  rw [u]
  subst hp
  subst hq
  repeat' split
  all_goals first | rfl | omega
