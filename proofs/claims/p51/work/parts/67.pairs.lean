/-! THE MATHEMATICS of pairs: each counted once, or at both of its cells -/
theorem nsum_mul {f g : Nat → Int} : ∀ (n i : Nat), nsum (fun j => f j + g j) i n = nsum f i n + nsum g i n := by
  intro n
  induction n with
  | zero => intro i; rfl
  | succ n ih => intro i; rw [nsum, nsum, nsum, ih (i + 1)]; omega
theorem nsum_shift (f : Nat → Int) : ∀ (n i k : Nat), nsum f (i + k) n = nsum (fun j => f (j + k)) i n := by
  intro n
  induction n with
  | zero => intro i k; rfl
  | succ n ih => intro i k; rw [nsum, nsum, show i + k + 1 = i + 1 + k by omega, ih (i + 1) k]
/-- rows of n, one after the other -/
theorem nsum_flat (f : Nat → Nat → Int) (n : Nat) (hn : 0 < n) : ∀ m : Nat, nsum (fun k => f (k / n) (k % n)) 0 (m * n) = nsum (fun r => nsum (fun x => f r x) 0 n) 0 m := by
  intro m
  induction m with
  | zero => rw [Nat.zero_mul]; rfl
  | succ m ih =>
    rw [Nat.add_mul, Nat.one_mul, nsum_add, ih, nsum_r', Nat.zero_add, Nat.zero_add]
    congr 1
    have e := nsum_shift (fun k => f (k / n) (k % n)) n 0 (m * n)
    rw [Nat.zero_add] at e
    rw [e]
    refine nsum_eq _ _ fun j _ hj => ?_
    obtain ⟨e1, e2⟩ := nat_rx (r := m) (x := j) (nc := n) (by omega)
    rw [Nat.add_comm j (m * n), e1, e2]
/-- what is symmetric, and nothing on itself, counts twice -/
theorem nsum_sym (f : Nat → Nat → Int) (h0 : ∀ k, f k k = 0) (hs : ∀ k j, f k j = f j k) : ∀ n : Nat, nsum (fun k => nsum (fun j => f k j) 0 n) 0 n = 2 * nsum (fun k => nsum (fun j => f k j) 0 k) 0 n := by
  intro n
  induction n with
  | zero => rfl
  | succ n ih =>
    rw [nsum_r', nsum_r' (fun k => nsum (fun j => f k j) 0 k), Nat.zero_add, nsum_r', Nat.zero_add, h0]
    have e : nsum (fun k => nsum (fun j => f k j) 0 (n + 1)) 0 n = nsum (fun k => nsum (fun j => f k j) 0 n) 0 n + nsum (fun k => f n k) 0 n := by
      rw [← nsum_mul]
      refine nsum_eq _ _ fun j _ _ => ?_
      rw [nsum_r', Nat.zero_add, hs j n]
    rw [e, ih]
    omega
/-- a sum of which only a place and its two neighbours count -/
theorem nsum_band (u : Nat → Int) {x n : Nat} (hx : x < n) (h0 : ∀ y, y < n → y + 1 < x ∨ x + 1 < y → u y = 0) : nsum u 0 n = (if 0 < x then u (x - 1) else 0) + u x + (if x + 1 < n then u (x + 1) else 0) := by
  have e1 : nsum u 0 n = nsum u 0 x + (u x + nsum u (x + 1) (n - x - 1)) := by
    have := nsum_add u x (n - x) 0
    rw [show x + (n - x) = n by omega, Nat.zero_add] at this
    rw [this]
    congr 1
    rw [show n - x = (n - x - 1) + 1 by omega, nsum]
    rfl
  have e2 : nsum u 0 x = if 0 < x then u (x - 1) else 0 := by
    by_cases q : 0 < x
    · rw [if_pos q]
      have := nsum_r' u (x - 1) 0
      rw [show x - 1 + 1 = x by omega, Nat.zero_add] at this
      rw [this, nsum_0 _ _ (fun j _ hj => h0 j (by omega) (by omega)), Int.zero_add]
    · rw [if_neg q, show x = 0 by omega]; rfl
  have e3 : nsum u (x + 1) (n - x - 1) = if x + 1 < n then u (x + 1) else 0 := by
    by_cases q : x + 1 < n
    · rw [if_pos q, show n - x - 1 = (n - x - 2) + 1 by omega, nsum, nsum_0 _ _ (fun j _ hj => h0 j (by omega) (by omega)), Int.add_zero]
    · rw [if_neg q, show n - x - 1 = 0 by omega]; rfl
  rw [e1, e2, e3]
  omega
theorem sq1 {d : Int} : d * d = 1 ↔ d = 1 ∨ d = -1 := by
  constructor
  · intro h
    rcases (show d ≤ -2 ∨ d = -1 ∨ d = 0 ∨ d = 1 ∨ 2 ≤ d by omega) with q | q | q | q | q
    · have := Int.mul_le_mul_of_nonneg_right (a := 2) (b := -d) (c := -d) (by omega) (by omega)
      rw [Int.neg_mul_neg] at this
      omega
    · exact Or.inr q
    · subst q; omega
    · exact Or.inl q
    · have := Int.mul_le_mul_of_nonneg_right (a := 2) (b := d) (c := d) q (by omega)
      omega
  · intro h
    rcases h with q | q <;> subst q <;> rfl
theorem sq_big {d : Int} (h : d ≤ -2 ∨ 2 ≤ d) : 4 ≤ d * d := by
  rcases h with q | q
  · have := Int.mul_le_mul_of_nonneg_right (a := 2) (b := -d) (c := -d) (by omega) (by omega)
    rw [Int.neg_mul_neg] at this
    omega
  · have := Int.mul_le_mul_of_nonneg_right (a := 2) (b := d) (c := d) q (by omega)
    omega
theorem sq_nn (d : Int) : 0 ≤ d * d := by
  rcases Int.le_total 0 d with q | q
  · exact Int.mul_nonneg q q
  · have := Int.mul_nonneg (a := -d) (b := -d) (by omega) (by omega)
    rwa [Int.neg_mul_neg] at this
theorem lnb_far {st r x d e : Int} (h : (d ≤ -2 ∨ 2 ≤ d) ∨ (e ≤ -2 ∨ 2 ≤ e)) : lnb st r x d e = false := by
  unfold lnb
  refine decide_eq_false fun q => ?_
  have n1 := sq_nn d
  have n2 := sq_nn e
  rcases h with h | h
  · have := sq_big h
    rcases q with q | ⟨_, _, q⟩ | ⟨_, q, _⟩ <;> omega
  · have := sq_big h
    rcases q with q | ⟨_, q, _⟩ | ⟨_, _, q⟩ <;> omega
theorem lsl_far {st d e : Int} {b : Bool} (hb : b = false) (h : (d ≤ -2 ∨ 2 ≤ d) ∨ (e ≤ -2 ∨ 2 ≤ e)) : lsl st b d e = false := by
  unfold lsl
  subst hb
  split
  · refine decide_eq_false fun q => ?_
    rcases h with h | h <;> have := sq_big h <;> omega
  · rfl
theorem lnb_nb (C : Clo) {r x d e : Int} (hd : d = -1 ∨ d = 0 ∨ d = 1) (he : e = -1 ∨ e = 0 ∨ e = 1) : lnb C.st r x d e = C.nb r x d e := by
  unfold lnb Clo.nb
  rcases hd with q | q | q <;> rcases he with p | p | p <;> subst q <;> subst p
  all_goals
    repeat' split
    all_goals first
      | (exfalso; omega)
      | (rw [decide_eq_true (by omega)]; done)
      | (rw [decide_eq_false (by omega)]; done)
      | (rw [decide_eq_true (by omega), decide_eq_true (by omega)]; done)
      | (rw [decide_eq_false (by omega), decide_eq_false (by omega)]; done)
      | (exact decide_eq_decide.mpr (by omega))
theorem lsl_sl (C : Clo) (hC : C.st = 108 ∨ C.st = 112 ∨ C.st = 98) {d e : Int} (b : Bool) (hd : d = -1 ∨ d = 0 ∨ d = 1) (he : e = -1 ∨ e = 0 ∨ e = 1) : lsl C.st b d e = C.sl b d e := by
  unfold lsl Clo.sl
  rcases hC with s | s | s <;> rw [s] <;> rcases hd with q | q | q <;> rcases he with p | p | p <;> subst q <;> subst p <;> cases b <;> rfl
/-- a pair, the cells by row and column -/
def Clo.Rp (C : Clo) (rule : Int) (k j : Nat) : Bool := C.pal k j && (decide (rule = 1) && C.lbe k j || decide (rule = 2) && lsl C.st (C.lbe k j) (C.dw k j) (C.rg k j))
theorem lnb_sym {st r x d e : Int} (hst : st = 108 ∨ st = 112 ∨ st = 98) (hr : 0 ≤ r ∧ 0 ≤ r + d) (hx : 0 ≤ x ∧ 0 ≤ x + e) : lnb st r x d e = lnb st (r + d) (x + e) (-d) (-e) := by
  unfold lnb
  rw [Int.neg_mul_neg, Int.neg_mul_neg]
  refine decide_eq_decide.mpr ?_
  have h1 : d * d = 1 ↔ d = 1 ∨ d = -1 := sq1
  have h2 : e * e = 1 ↔ e = 1 ∨ e = -1 := sq1
  constructor
  · rintro (q | ⟨q1, q2, q3⟩ | ⟨q1, q2, q3⟩)
    · exact Or.inl q
    · have := h2.mp q2
      exact Or.inr (Or.inl ⟨q1, q2, by omega⟩)
    · have := h1.mp q2
      exact Or.inr (Or.inr ⟨q1, q2, by omega⟩)
  · rintro (q | ⟨q1, q2, q3⟩ | ⟨q1, q2, q3⟩)
    · exact Or.inl q
    · have := h2.mp q2
      exact Or.inr (Or.inl ⟨q1, q2, by omega⟩)
    · have := h1.mp q2
      exact Or.inr (Or.inr ⟨q1, q2, by omega⟩)
theorem lsl_sym {st d e : Int} (b : Bool) : lsl st b d e = lsl st b (-d) (-e) := by
  unfold lsl
  rw [Int.neg_mul_neg, Int.neg_mul_neg]
theorem Clo.dw_neg (C : Clo) (k j : Nat) : C.dw j k = -C.dw k j := by unfold Clo.dw; omega
theorem Clo.rg_neg (C : Clo) (k j : Nat) : C.rg j k = -C.rg k j := by unfold Clo.rg; omega
theorem Clo.lbe_sym {C : Clo} (hC : C.ok) (k j : Nat) : C.lbe k j = C.lbe j k := by
  unfold Clo.lbe
  rw [C.dw_neg k j, C.rg_neg k j]
  have e1 : ((j / C.nc : Nat) : Int) = ((k / C.nc : Nat) : Int) + C.dw k j := by unfold Clo.dw; omega
  have e2 : ((j % C.nc : Nat) : Int) = ((k % C.nc : Nat) : Int) + C.rg k j := by unfold Clo.rg; omega
  rw [lnb_sym hC.2.2.2.2.2 ⟨Int.natCast_nonneg _, by rw [← e1]; exact Int.natCast_nonneg _⟩ ⟨Int.natCast_nonneg _, by rw [← e2]; exact Int.natCast_nonneg _⟩, ← e1, ← e2]
theorem Clo.Rp_sym {C : Clo} (hC : C.ok) (rule : Int) (k j : Nat) : C.Rp rule k j = C.Rp rule j k := by
  unfold Clo.Rp
  rw [C.lbe_sym hC k j, C.dw_neg j k, C.rg_neg j k, ← lsl_sym]
  congr 1
  unfold Clo.pal
  exact decide_eq_decide.mpr (by omega)
theorem Clo.Rp_self {C : Clo} (rule : Int) (k : Nat) : C.Rp rule k k = false := by
  unfold Clo.Rp
  have e1 : C.dw k k = 0 := by unfold Clo.dw; omega
  have e2 : C.rg k k = 0 := by unfold Clo.rg; omega
  have e3 : C.lbe k k = false := by
    unfold Clo.lbe lnb
    rw [e1, e2]
    exact decide_eq_false (by omega)
  rw [e3, e1, e2]
  unfold lsl
  simp
theorem Clo.Rp_far {C : Clo} (rule : Int) {k j : Nat} (h : (C.dw k j ≤ -2 ∨ 2 ≤ C.dw k j) ∨ (C.rg k j ≤ -2 ∨ 2 ≤ C.rg k j)) : C.Rp rule k j = false := by
  unfold Clo.Rp
  have e3 : C.lbe k j = false := lnb_far h
  rw [e3, lsl_far rfl h]
  simp
theorem Clo.dw_rx (C : Clo) {r x r' x' : Nat} (hx : x < C.nc) (hx' : x' < C.nc) : C.dw (r * C.nc + x) (r' * C.nc + x') = (r' : Int) - r ∧ C.rg (r * C.nc + x) (r' * C.nc + x') = (x' : Int) - x := by
  unfold Clo.dw Clo.rg
  rw [(nat_rx hx).1, (nat_rx hx).2, (nat_rx hx').1, (nat_rx hx').2]
  exact ⟨rfl, rfl⟩
/-- near: what the class asks -/
theorem Clo.Rp_near {C : Clo} (hC : C.ok) {rule : Int} (hr : rule = 1 ∨ rule = 2) {r x r' x' : Nat} (h1 : r < C.nr ∧ r' < C.nr) (h2 : x < C.nc ∧ x' < C.nc) {d e : Int} (hd : d = (r' : Int) - r) (he : e = (x' : Int) - x) (hdb : d = -1 ∨ d = 0 ∨ d = 1) (heb : e = -1 ∨ e = 0 ∨ e = 1) : C.Rp rule (r * C.nc + x) (r' * C.nc + x') = C.two rule r x d e := by
  obtain ⟨e1, e2⟩ := C.dw_rx (r := r) (x := x) (r' := r') (x' := x') h2.1 h2.2
  unfold Clo.Rp Clo.two Clo.lbe
  rw [e1, e2, ← hd, ← he, (nat_rx (r := r) h2.1).1, (nat_rx (r := r) h2.1).2, lnb_nb C hdb heb, lsl_sl C hC.2.2.2.2.2 _ hdb heb]
  have g1 := g_gk (C := C) h1.1 h2.1
  have g2 := g_gk (C := C) h1.2 h2.2
  rw [show (r : Int) + d = r' by omega, show (x : Int) + e = x' by omega, g1, g2]
  unfold Clo.pal
  rcases hr with q | q <;> subst q
  · rw [show decide ((1 : Int) = 1) = true from rfl, show decide ((1 : Int) = 2) = false from rfl, show decide ((1 : Int) % 2 = 1) = true from rfl, show decide ((1 : Int) / 2 % 2 = 1) = false from rfl]
  · rw [show decide ((2 : Int) = 1) = false from rfl, show decide ((2 : Int) = 2) = true from rfl, show decide ((2 : Int) % 2 = 1) = false from rfl, show decide ((2 : Int) / 2 % 2 = 1) = true from rfl]
theorem Clo.two_out {C : Clo} (ru r x d e : Int) (h : (r + d < 0 ∨ C.nr ≤ r + d) ∨ (x + e < 0 ∨ C.nc ≤ x + e)) : C.two ru r x d e = false := by
  unfold Clo.two
  have hg : C.g (r + d) (x + e) = -1 := by
    unfold Clo.g
    rw [if_neg (by omega)]
  rw [hg, decide_eq_false (by omega)]
  rfl
theorem Clo.row_two {C : Clo} (hC : C.ok) {rule : Int} (hr : rule = 1 ∨ rule = 2) {r x r' : Nat} (h1 : r < C.nr ∧ r' < C.nr) (h2 : x < C.nc) {d : Int} (hd : d = (r' : Int) - r) (hdb : d = -1 ∨ d = 0 ∨ d = 1) :
    nsum (fun x' => bz (C.Rp rule (r * C.nc + x) (r' * C.nc + x'))) 0 C.nc = bz (C.two rule r x d (-1)) + bz (C.two rule r x d 0) + bz (C.two rule r x d 1) := by
  rw [nsum_band _ h2 (fun y hy q => by
    rw [C.Rp_far rule (by rw [(C.dw_rx (r := r) (x := x) (r' := r') (x' := y) h2 hy).2]; omega)]; rfl)]
  congr 1
  · congr 1
    · by_cases q : 0 < x
      · rw [if_pos q, C.Rp_near hC hr h1 ⟨h2, by omega⟩ hd (e := -1) (by omega) hdb (by omega)]
      · rw [if_neg q, C.two_out _ _ _ _ _ (by omega)]; rfl
    · rw [C.Rp_near hC hr h1 ⟨h2, h2⟩ hd (e := 0) (by omega) hdb (by omega)]
  · by_cases q : x + 1 < C.nc
    · rw [if_pos q, C.Rp_near hC hr h1 ⟨h2, q⟩ hd (e := 1) (by omega) hdb (by omega)]
    · rw [if_neg q, C.two_out _ _ _ _ _ (by omega)]; rfl
theorem Clo.all_two {C : Clo} (hC : C.ok) {rule : Int} (hr : rule = 1 ∨ rule = 2) {r x : Nat} (h1 : r < C.nr) (h2 : x < C.nc) :
    nsum (fun j => bz (C.Rp rule (r * C.nc + x) j)) 0 C.ks.length = C.twos rule r x := by
  have hn := hC.1
  have e0 := nsum_flat (fun r' x' => bz (C.Rp rule (r * C.nc + x) (r' * C.nc + x'))) C.nc (by omega) C.nr
  have e1 : nsum (fun j => bz (C.Rp rule (r * C.nc + x) j)) 0 C.ks.length = nsum (fun k => bz (C.Rp rule (r * C.nc + x) (k / C.nc * C.nc + k % C.nc))) 0 (C.nr * C.nc) := by
    rw [hC.2.2.1]
    refine nsum_eq _ _ fun j _ _ => ?_
    have := Nat.div_add_mod j C.nc
    rw [Nat.mul_comm] at this
    rw [this]
  rw [e1, e0]
  rw [nsum_band _ h1 (fun y hy q => nsum_0 _ _ fun x' _ hx' => by
    rw [C.Rp_far rule (by rw [(C.dw_rx (r := r) (x := x) (r' := y) (x' := x') h2 (by omega)).1]; omega)]; rfl)]
  unfold Clo.twos
  congr 1
  · congr 1
    · by_cases q : 0 < r
      · rw [if_pos q, C.row_two hC hr (r' := r - 1) ⟨h1, by omega⟩ h2 (d := -1) (by omega) (by omega)]
      · rw [if_neg q, C.two_out _ _ _ _ _ (by omega), C.two_out _ _ _ _ _ (by omega), C.two_out _ _ _ _ _ (by omega)]; rfl
    · rw [C.row_two hC hr (r' := r) ⟨h1, h1⟩ h2 (d := 0) (by omega) (by omega)]
  · by_cases q : r + 1 < C.nr
    · rw [if_pos q, C.row_two hC hr (r' := r + 1) ⟨h1, by omega⟩ h2 (d := 1) (by omega) (by omega)]
    · rw [if_neg q, C.two_out _ _ _ _ _ (by omega), C.two_out _ _ _ _ _ (by omega), C.two_out _ _ _ _ _ (by omega)]; rfl
/-- all cells, one after the other, or row by row -/
theorem Clo.flat {C : Clo} (hC : C.ok) (f : Nat → Int) (g : Nat → Nat → Int) (h : ∀ r x, r < C.nr → x < C.nc → f (r * C.nc + x) = g r x) : nsum f 0 C.ks.length = nsum (fun r => nsum (fun x => g r x) 0 C.nc) 0 C.nr := by
  have hn := hC.1
  rw [← nsum_flat g C.nc (by omega) C.nr, hC.2.2.1]
  refine nsum_eq _ _ fun k _ hk => ?_
  have hdm := Nat.div_add_mod k C.nc
  rw [Nat.mul_comm] at hdm
  have := h (k / C.nc) (k % C.nc) (Nat.div_lt_of_lt_mul (by rw [Nat.mul_comm]; omega)) (Nat.mod_lt _ (by omega))
  rw [hdm] at this
  exact this
theorem Clo.cnt_two {C : Clo} (hC : C.ok) {rule : Int} (hr : rule = 1 ∨ rule = 2) : C.cnt rule = 2 * C.lbr rule := by
  have e1 : nsum (fun k => nsum (fun j => bz (C.Rp rule k j)) 0 C.ks.length) 0 C.ks.length = C.cnt rule := by
    refine C.flat hC _ (fun r x => C.cell rule r x) fun r x h1 h2 => ?_
    rw [C.all_two hC hr h1 h2]
    unfold Clo.cell
    rw [if_neg (by omega), if_neg (by omega)]
  have e2 : C.lbr rule = nsum (fun k => nsum (fun j => bz (C.Rp rule k j)) 0 k) 0 C.ks.length := by
    unfold Clo.lbr
    refine nsum_eq _ _ fun k _ _ => ?_
    have t1 : C.t3 rule k = 0 := by unfold Clo.t3; rw [decide_eq_false (by omega)]; rfl
    have t2 : C.lfr rule k = 0 := by unfold Clo.lfr; rw [decide_eq_false (p := rule = 8) (by omega)]; rfl
    rw [t1, t2, Int.add_zero, Int.add_zero]
    rfl
  rw [← e1, e2]
  exact nsum_sym (fun k j => bz (C.Rp rule k j)) (fun k => by rw [C.Rp_self]; rfl) (fun k j => by rw [C.Rp_sym hC]) C.ks.length
theorem Clo.lbr_bd {C : Clo} (hC : C.ok) {rule : Int} (hr : rule = 1 ∨ rule = 2) : 0 ≤ C.lbr rule := by
  have := C.cnt_two hC hr
  have h2 := C.cnt_bd hC rule 0 C.nr hC.2.1.2
  have h3 : C.cnt rule = nsum (fun r => nsum (fun x => C.cell rule r x) 0 C.nc) 0 C.nr := rfl
  omega
theorem Clo.lbr_br {C : Clo} (hC : C.ok) {rule : Int} (hr : rule = 1 ∨ rule = 2 ∨ rule = 4 ∨ rule = 8) : C.lbr rule = C.br rule := by
  have hn := hC.1
  by_cases q : rule = 1 ∨ rule = 2
  · unfold Clo.br
    rw [if_pos q, C.cnt_two hC q, Int.tdiv_eq_ediv_of_nonneg (by have := C.lbr_bd hC q; omega)]
    omega
  · unfold Clo.br
    rw [if_neg q]
    have pz : ∀ k, nsum (fun j => C.pr rule k j) 0 k = 0 := fun k => nsum_0 _ _ fun j _ _ => by
      unfold Clo.pr
      rw [decide_eq_false (p := rule = 1) (by omega), decide_eq_false (p := rule = 2) (by omega), Bool.false_and, Bool.false_and, Bool.or_false, Bool.and_false]; rfl
    rcases (show rule = 4 ∨ rule = 8 by omega) with q4 | q8
    · subst q4
      have hl : C.lbr 4 = nsum (fun k => C.t3 4 k) 0 C.ks.length := by
        unfold Clo.lbr
        refine nsum_eq _ _ fun k _ _ => ?_
        have t2 : C.lfr 4 k = 0 := by unfold Clo.lfr; rw [decide_eq_false (p := (4 : Int) = 8) (by omega)]; rfl
        rw [pz, t2, Int.add_zero, Int.zero_add]
      have hrow : ∀ r, r < C.nr → nsum (fun x => C.t3 4 (r * C.nc + x)) 0 C.nc = nsum (fun x => C.cell 4 r x) 0 C.nc := fun r hr => by
        have ea : nsum (fun x => C.t3 4 (r * C.nc + x)) 0 C.nc = nsum (fun x => C.t3 4 (r * C.nc + (x + 2))) 0 (C.nc - 2) := by
          have := nsum_add (fun x => C.t3 4 (r * C.nc + x)) 2 (C.nc - 2) 0
          rw [show 2 + (C.nc - 2) = C.nc by omega] at this
          rw [this, nsum_shift (fun x => C.t3 4 (r * C.nc + x)) (C.nc - 2) 0 2, nsum_0 2 0 (fun j _ hj => by
            unfold Clo.t3
            rw [(nat_rx (r := r) (x := j) (nc := C.nc) (by omega)).2, decide_eq_false (p := 2 ≤ j ∧ _) (by omega), Bool.and_false]; rfl), Int.zero_add]
        have eb : nsum (fun x => C.cell 4 r x) 0 C.nc = nsum (fun x => C.cell 4 r x) 0 (C.nc - 2) := by
          have := nsum_add (fun x : Nat => C.cell 4 r x) (C.nc - 2) 2 0
          rw [show C.nc - 2 + 2 = C.nc by omega] at this
          rw [this, nsum_0 2 (0 + (C.nc - 2)) (fun j h1 h2 => by
            unfold Clo.cell
            rw [if_pos rfl]
            unfold Clo.three
            have hg := C.g_out r ((j : Int) + 2) (by omega)
            rw [hg, decide_eq_false (by omega)]; rfl), Int.add_zero]
        rw [ea, eb]
        refine nsum_eq _ _ fun x _ hx => ?_
        unfold Clo.t3 Clo.cell
        rw [if_pos rfl]
        unfold Clo.three
        rw [(nat_rx (r := r) (x := x + 2) (nc := C.nc) (by omega)).2, show (x : Int) + 1 = ((x + 1 : Nat) : Int) by omega, show (x : Int) + 2 = ((x + 2 : Nat) : Int) by omega, g_gk hr (by omega), g_gk hr (by omega), g_gk hr (by omega), show r * C.nc + (x + 2) - 1 = r * C.nc + (x + 1) by omega, show r * C.nc + (x + 2) - 2 = r * C.nc + x by omega, decide_eq_true (p := (4 : Int) = 4) rfl, Bool.true_and]
        congr 1
        exact decide_eq_decide.mpr (by omega)
      rw [hl, C.flat hC _ (fun r x => C.t3 4 (r * C.nc + x)) (fun r x _ _ => rfl)]
      exact nsum_eq _ _ fun r _ hr => hrow r (by omega)
    · subst q8
      have hl : C.lbr 8 = nsum (fun k => C.lfr 8 k) 0 C.ks.length := by
        unfold Clo.lbr
        refine nsum_eq _ _ fun k _ _ => ?_
        have t2 : C.t3 8 k = 0 := by unfold Clo.t3; rw [decide_eq_false (p := (8 : Int) = 4) (by omega)]; rfl
        rw [pz, t2, Int.zero_add, Int.zero_add]
      rw [hl]
      refine C.flat hC _ (fun r x => C.cell 8 r x) fun r x h1 h2 => ?_
      unfold Clo.cell
      rw [if_neg (by omega), if_pos rfl]
      unfold Clo.lfr Clo.frame Clo.edge
      have hg0 := g_gk (C := C) (r := 0) (x := 0) (by omega) (by omega)
      rw [Nat.zero_mul, Nat.zero_add] at hg0
      rw [(nat_rx (r := r) h2).2, decide_eq_true (p := (8 : Int) = 8) rfl, Bool.true_and, g_gk h1 h2, show C.g 0 0 = C.gk 0 from hg0, ← Bool.decide_and]
      congr 1
      refine decide_eq_decide.mpr ?_
      have hm : r * C.nc + x < C.nc ↔ r = 0 := by
        constructor
        · intro q
          rcases Nat.eq_zero_or_pos r with z | z
          · exact z
          · have : C.nc ≤ r * C.nc := Nat.le_mul_of_pos_left _ z
            omega
        · intro q; subst q; omega
      have hm2 : C.ks.length - C.nc ≤ r * C.nc + x ↔ r = C.nr - 1 := by
        rw [hC.2.2.1]
        have hnr := hC.2.1
        obtain ⟨m, hmr⟩ : ∃ m, C.nr = m + 1 := ⟨C.nr - 1, by omega⟩
        rw [hmr, Nat.add_mul, Nat.one_mul, Nat.add_sub_cancel]
        constructor
        · intro q
          rcases Nat.lt_or_ge r m with z | z
          · have : (r + 1) * C.nc ≤ m * C.nc := Nat.mul_le_mul_right _ z
            rw [Nat.add_mul] at this
            omega
          · omega
        · intro q
          have q2 : r = m := by omega
          rw [q2]
          omega
      rw [hm, hm2]
      omega
