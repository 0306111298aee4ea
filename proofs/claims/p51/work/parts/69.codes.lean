/-! THE CODES of the ways to fill -/
def Clo.fil (ch : Nat) : List Int → Nat → Clo → Clo
  | [], _, C => C
  | e :: r, c, C => Clo.fil ch r (c % ch ^ r.length) (C.set e ((c / ch ^ r.length : Nat) : Int))
def Clo.gd (C : Clo) (ch : Nat) (es : List Int) (c : Nat) : Bool := decide ((Clo.fil ch es c C).own = 0)
def Clo.fre (C : Clo) (es : List Int) : Prop := es.Nodup ∧ ∀ e ∈ es, (0 ≤ e ∧ e < C.ks.length) ∧ C.k e = -1
theorem Clo.fre_step {C : Clo} {e : Int} {r : List Int} (h : C.fre (e :: r)) (v : Int) : (C.set e v).fre r := by
  obtain ⟨h1, h2⟩ := h
  rw [List.nodup_cons] at h1
  refine ⟨h1.2, fun x hx => ?_⟩
  have hx2 := h2 x (List.mem_cons_of_mem _ hx)
  have he := h2 e List.mem_cons_self
  have hne : x ≠ e := fun q => h1.1 (q ▸ hx)
  exact ⟨⟨hx2.1.1, by rw [show (C.set e v).ks.length = C.ks.length from List.length_set]; exact hx2.1.2⟩, by rw [set_kn he.1.1 hx2.1.1 hne]; exact hx2.2⟩
theorem Clo.loc {C : Clo} (hC : C.ok) {e : Int} (he : 0 ≤ e ∧ e < C.ks.length) (hk : C.k e = -1) {v : Int} (hv : 0 ≤ v ∧ v < 4) : (C.set e v).own = 0 ↔ C.own = 0 ∧ (C.set e v).bd e = false := by
  obtain ⟨i, rfl⟩ : ∃ i : Nat, e = i := ⟨e.toNat, by omega⟩
  have hn := hC.1
  have hm : i % C.nc < C.nc := Nat.mod_lt _ (by omega)
  have hd : i / C.nc < C.nr := Nat.div_lt_of_lt_mul (by rw [Nat.mul_comm, ← hC.2.2.1]; omega)
  have hdm := Nat.div_add_mod i C.nc
  rw [Nat.mul_comm] at hdm
  rw [kk_k (by omega)] at hk
  have := Clo.locl hC (r0 := i / C.nc) (x0 := i % C.nc) hd hm (by rw [hdm]; exact hk) hv
  rw [hdm] at this
  rw [Clo.own_cln hC, Clo.own_cln (Clo.set_ok hC (i : Int) (by omega)), this]
  have e1 : (C.set (i : Int) v).bd i = (C.set (i : Int) v).bad ((i / C.nc : Nat) : Int) ((i % C.nc : Nat) : Int) := by
    show (C.set (i : Int) v).bad ((i : Int) / C.nc) ((i : Int) - (i : Int) / C.nc * C.nc) = _
    have h1 : (i : Int) / C.nc = ((i / C.nc : Nat) : Int) := rfl
    rw [h1, nat_tmod i C.nc]
  rw [e1]
theorem nat4 {v ch : Nat} (h : v < ch) (hch : ch ≤ 4) : (0 ≤ (v : Int) ∧ (v : Int) < 4) ∧ (-1 ≤ (v : Int) ∧ (v : Int) < 4) := by omega
theorem pow_q {ch n c : Nat} (hch : 1 ≤ ch) (hc : c < ch ^ (n + 1)) : c / ch ^ n < ch ∧ c % ch ^ n < ch ^ n := by
  have hp : 0 < ch ^ n := Nat.pow_pos hch
  exact ⟨Nat.div_lt_of_lt_mul (by rw [Nat.pow_succ] at hc; exact hc), Nat.mod_lt _ hp⟩
theorem Clo.fil_mono {ch : Nat} (hch : 1 ≤ ch ∧ ch ≤ 4) : ∀ (es : List Int) (c : Nat) (C : Clo), C.ok → C.fre es → c < ch ^ es.length → (Clo.fil ch es c C).own = 0 → C.own = 0 := by
  intro es
  induction es with
  | nil => intro c C _ _ _ h; exact h
  | cons e r ih =>
    intro c C hC hf hc h
    obtain ⟨p1, p2⟩ := pow_q hch.1 (show c < ch ^ (r.length + 1) from hc)
    have he := hf.2 e List.mem_cons_self
    have := ih _ _ (Clo.set_ok hC e (nat4 p1 hch.2).2) (C.fre_step hf _) p2 h
    exact ((C.loc hC he.1 he.2 (nat4 p1 hch.2).1).mp this).1
theorem nwk_sum (f : Clo → Int) (C : Clo) (e : Int) : ∀ n v : Nat, nwk f C e v n = nsum (fun v => if (C.set e (v : Nat)).bd e = true then 0 else f (C.set e (v : Nat))) v n := by
  intro n
  induction n with
  | zero => intro v; rfl
  | succ n ih => intro v; rw [nwk, nsum, ih (v + 1)]
theorem Clo.nw_sum {ch : Nat} (hch : 1 ≤ ch ∧ ch ≤ 4) : ∀ (es : List Int) (C : Clo), C.ok → C.fre es → C.own = 0 → Clo.nw ch es C = nsum (fun c => bz (C.gd ch es c)) 0 (ch ^ es.length) := by
  intro es
  induction es with
  | nil =>
    intro C hC hf ho
    have : C.gd ch [] 0 = true := decide_eq_true ho
    show (1 : Int) = nsum _ 0 (ch ^ 0)
    rw [Nat.pow_zero, nsum, nsum, this]
    rfl
  | cons e r ih =>
    intro C hC hf ho
    have he := hf.2 e List.mem_cons_self
    have hp : 0 < ch ^ r.length := Nat.pow_pos (by omega)
    have e1 : nsum (fun c => bz (C.gd ch (e :: r) c)) 0 (ch ^ (e :: r).length) = nsum (fun v => nsum (fun c => bz ((C.set e ((v : Nat) : Int)).gd ch r c)) 0 (ch ^ r.length)) 0 ch := by
      rw [← nsum_flat (fun v c => bz ((C.set e ((v : Nat) : Int)).gd ch r c)) (ch ^ r.length) hp ch, List.length_cons, Nat.pow_succ, Nat.mul_comm]
      rfl
    rw [e1]
    show nwk (Clo.nw ch r) C e 0 ch = _
    rw [nwk_sum]
    refine nsum_eq _ _ fun v _ hv => ?_
    have hok := Clo.set_ok hC e (k := (v : Int)) (by omega)
    have hl := C.loc hC he.1 he.2 (v := (v : Int)) (by omega)
    by_cases q : (C.set e (v : Int)).bd e = true
    · rw [if_pos q]
      refine (nsum_0 _ _ fun c _ hc => bz0.mpr (decide_eq_false fun z => ?_)).symm
      have := hl.mp (Clo.fil_mono hch r c _ hok (C.fre_step hf _) (by omega) z)
      rw [q] at this
      exact absurd this.2 (by simp)
    · rw [if_neg q]
      exact ih _ hok (C.fre_step hf _) (hl.mpr ⟨ho, by simpa using q⟩)
theorem Clo.ems_fre (C : Clo) : C.fre C.ems := by
  refine ⟨emf_nd C _ _, fun e he => ?_⟩
  have := emf_mem C C.ks.length 0 e he
  exact ⟨by omega, this.2⟩
theorem Clo.waysN_sum {C : Clo} (hC : C.ok) {ch : Nat} (hch : 1 ≤ ch ∧ ch ≤ 4) : C.waysN ch = nsum (fun c => bz (C.gd ch C.ems c)) 0 (ch ^ C.ems.length) := by
  have hob := Clo.own_bd hC
  unfold Clo.waysN
  by_cases q : 0 < C.own
  · rw [if_pos q]
    refine (nsum_0 _ _ fun c _ hc => bz0.mpr (decide_eq_false fun z => ?_)).symm
    have := Clo.fil_mono hch C.ems c C hC C.ems_fre (by omega) z
    omega
  · rw [if_neg q]
    exact Clo.nw_sum hch C.ems C hC C.ems_fre (by omega)
theorem Clo.fst_first {ch : Nat} (hch : 1 ≤ ch ∧ ch ≤ 4) : ∀ (es : List Int) (C : Clo), C.ok → C.fre es → C.own = 0 →
    (Clo.fst ch es C = none ∧ ∀ c, c < ch ^ es.length → C.gd ch es c = false) ∨ ∃ c, c < ch ^ es.length ∧ C.gd ch es c = true ∧ (∀ c', c' < c → C.gd ch es c' = false) ∧ Clo.fst ch es C = some (Clo.fil ch es c C) := by
  intro es
  induction es with
  | nil =>
    intro C hC hf ho
    exact Or.inr ⟨0, by simp, decide_eq_true ho, fun c' q => by omega, rfl⟩
  | cons e r ih =>
    intro C hC hf ho
    have he := hf.2 e List.mem_cons_self
    have hp : 0 < ch ^ r.length := Nat.pow_pos (by omega)
    have key : ∀ (n v : Nat), v + n = ch → (∀ v' c', v' < v → c' < ch ^ r.length → (C.set e (v' : Int)).gd ch r c' = false) →
        (fstk (Clo.fst ch r) C e v n = none ∧ ∀ v' c', v' < ch → c' < ch ^ r.length → (C.set e (v' : Int)).gd ch r c' = false) ∨
        ∃ v1 c1, v1 < ch ∧ c1 < ch ^ r.length ∧ (C.set e (v1 : Int)).gd ch r c1 = true ∧ (∀ v' c', c' < ch ^ r.length → (v' < v1 ∨ (v' = v1 ∧ c' < c1)) → (C.set e (v' : Int)).gd ch r c' = false) ∧ fstk (Clo.fst ch r) C e v n = some (Clo.fil ch r c1 (C.set e (v1 : Int))) := by
      intro n
      induction n with
      | zero =>
        intro v hv h0
        exact Or.inl ⟨rfl, fun v' c' h1 h2 => h0 v' c' (by omega) h2⟩
      | succ n ihn =>
        intro v hv h0
        have hok := Clo.set_ok hC e (k := (v : Int)) (by omega)
        have hl := C.loc hC he.1 he.2 (v := (v : Int)) (by omega)
        rw [fstk]
        by_cases q : (C.set e (v : Int)).bd e = true
        · rw [if_pos q]
          refine ihn (v + 1) (by omega) fun v' c' h1 h2 => ?_
          by_cases z : v' = v
          · rw [z]
            refine decide_eq_false fun y => ?_
            have := hl.mp (Clo.fil_mono hch r c' _ hok (C.fre_step hf _) h2 y)
            rw [q] at this
            exact absurd this.2 (by simp)
          · exact h0 v' c' (by omega) h2
        · rw [if_neg q]
          have ho2 := hl.mpr ⟨ho, by simpa using q⟩
          rcases ih (C.set e (v : Int)) hok (C.fre_step hf _) ho2 with ⟨f1, f2⟩ | ⟨c1, f1, f2, f3, f4⟩
          · rw [f1]
            refine ihn (v + 1) (by omega) fun v' c' h1 h2 => ?_
            by_cases z : v' = v
            · rw [z]; exact f2 c' h2
            · exact h0 v' c' (by omega) h2
          · rw [f4]
            refine Or.inr ⟨v, c1, by omega, f1, f2, fun v' c' h2 h3 => ?_, rfl⟩
            rcases h3 with h3 | ⟨h3, h4⟩
            · exact h0 v' c' h3 h2
            · rw [h3]; exact f3 c' h4
    have hlen : ch ^ (e :: r).length = ch * ch ^ r.length := by rw [List.length_cons, Nat.pow_succ, Nat.mul_comm]
    have hgd : ∀ c, C.gd ch (e :: r) c = (C.set e ((c / ch ^ r.length : Nat) : Int)).gd ch r (c % ch ^ r.length) := fun c => rfl
    rw [hlen]
    rcases key ch 0 (by omega) (fun v' c' h1 _ => by omega) with ⟨k1, k2⟩ | ⟨v1, c1, k1, k2, k3, k4, k5⟩
    · refine Or.inl ⟨k1, fun c hc => ?_⟩
      rw [hgd]
      exact k2 _ _ (Nat.div_lt_of_lt_mul (by rw [Nat.mul_comm]; exact hc)) (Nat.mod_lt _ hp)
    · obtain ⟨d1, d2⟩ := nat_rx (r := v1) (x := c1) (nc := ch ^ r.length) k2
      refine Or.inr ⟨v1 * ch ^ r.length + c1, rx_lt k1 k2, ?_, fun c' hc' => ?_, ?_⟩
      · rw [hgd, d1, d2]; exact k3
      · rw [hgd]
        refine k4 _ _ (Nat.mod_lt _ hp) ?_
        have hle : c' / ch ^ r.length ≤ v1 := by
          have := Nat.div_le_div_right (c := ch ^ r.length) (Nat.le_of_lt hc')
          rw [d1] at this
          exact this
        rcases Nat.lt_or_ge (c' / ch ^ r.length) v1 with z | z
        · exact Or.inl z
        · have hz : c' / ch ^ r.length = v1 := by omega
          refine Or.inr ⟨hz, ?_⟩
          have := Nat.div_add_mod c' (ch ^ r.length)
          rw [hz, Nat.mul_comm] at this
          omega
      · show fstk (Clo.fst ch r) C e 0 ch = some (Clo.fil ch r ((v1 * ch ^ r.length + c1) % ch ^ r.length) (C.set e (((v1 * ch ^ r.length + c1) / ch ^ r.length : Nat) : Int)))
        rw [d1, d2]
        exact k5
/-! the digits -/
def Clo.emc (C : Clo) (i : Nat) : Nat := (C.emf i (C.ks.length - i)).length
def Clo.dig (C : Clo) (ch c j : Nat) : Int := if C.ks.getD j 0 < 0 then (((c / ch ^ C.emc (j + 1)) % ch : Nat) : Int) else C.ks.getD j 0
theorem Clo.emc_step {C : Clo} (hC : C.ok) {i : Nat} (hi : i < C.ks.length) : C.emc i = C.emc (i + 1) + (if C.ks.getD i 0 < 0 then 1 else 0) := by
  have hb := kk_bd hC i
  unfold Clo.emc
  rw [show C.ks.length - i = (C.ks.length - (i + 1)) + 1 by omega, Clo.emf, kk_k hi]
  by_cases q : C.ks.getD i 0 = -1
  · rw [if_pos q, if_pos (by omega)]; rfl
  · rw [if_neg q, if_neg (by omega)]; rfl
theorem emf_set {C : Clo} {e : Nat} (v : Int) (he : e < C.ks.length) : ∀ (n i : Nat), e < i → (C.set (e : Int) v).emf i n = C.emf i n := by
  intro n
  induction n with
  | zero => intro i _; rfl
  | succ n ih =>
    intro i hi
    rw [Clo.emf, Clo.emf, set_kn (by omega) (by omega) (by omega), ih (i + 1) (by omega)]
theorem emf_le (C : Clo) : ∀ (n i k : Nat), (C.emf (i + k) n).length ≤ (C.emf i (k + n)).length := by
  intro n i k
  induction k generalizing i with
  | zero => rw [Nat.add_zero, Nat.zero_add]; exact Nat.le_refl _
  | succ k ih =>
    have := ih (i + 1)
    rw [show i + (k + 1) = i + 1 + k by omega, show k + 1 + n = (k + n) + 1 by omega, Clo.emf]
    split
    · rw [List.length_cons]; omega
    · exact this
theorem pow_mod_div {ch c p q : Nat} (hch : 1 ≤ ch) (hq : q < p) : (c % ch ^ p) / ch ^ q % ch = c / ch ^ q % ch := by
  obtain ⟨d, rfl⟩ : ∃ d, p = q + (d + 1) := ⟨p - q - 1, by omega⟩
  rw [Nat.pow_add, Nat.mod_mul_right_div_self]
  exact Nat.mod_mod_of_dvd _ (by rw [Nat.pow_succ]; exact Nat.dvd_mul_left _ _)
theorem Clo.fil_dig {ch : Nat} (hch : 1 ≤ ch ∧ ch ≤ 4) : ∀ (n i c : Nat) (C : Clo), i + n = C.ks.length → c < ch ^ (C.emf i n).length → ∀ j, j < C.ks.length →
    (Clo.fil ch (C.emf i n) c C).ks.getD j 0 = if i ≤ j ∧ C.k j = -1 then (((c / ch ^ (C.emf (j + 1) (C.ks.length - (j + 1))).length) % ch : Nat) : Int) else C.ks.getD j 0 := by
  intro n
  induction n with
  | zero =>
    intro i c C hi _ j hj
    rw [if_neg (by omega)]
    rfl
  | succ n ih =>
    intro i c C hi hc j hj
    rw [Clo.emf] at hc ⊢
    by_cases q : C.k i = -1
    · rw [if_pos q] at hc ⊢
      obtain ⟨p1, p2⟩ := pow_q hch.1 (show c < ch ^ ((C.emf (i + 1) n).length + 1) from hc)
      rw [Clo.fil]
      have hlen : (C.set (i : Int) ((c / ch ^ (C.emf (i + 1) n).length : Nat) : Int)).ks.length = C.ks.length := List.length_set
      have es := emf_set (C := C) (e := i) ((c / ch ^ (C.emf (i + 1) n).length : Nat) : Int) (by omega)
      have e1 := ih (i + 1) (c % ch ^ (C.emf (i + 1) n).length) (C.set (i : Int) ((c / ch ^ (C.emf (i + 1) n).length : Nat) : Int)) (by rw [hlen]; omega) (by rw [es n (i + 1) (by omega)]; exact p2) j (by rw [hlen]; exact hj)
      rw [es n (i + 1) (by omega), hlen] at e1
      rw [e1]
      by_cases z : j = i
      · subst z
        rw [if_neg (by omega), if_pos ⟨Nat.le_refl _, q⟩, ks_set (by omega), if_pos rfl, show C.ks.length - (j + 1) = n by omega, Nat.mod_eq_of_lt p1]
      · rw [set_kn (by omega) (by omega) (by omega), ks_set (by omega), if_neg (Ne.symm z)]
        by_cases y : i + 1 ≤ j ∧ C.k j = -1
        · rw [if_pos y, if_pos ⟨by omega, y.2⟩, es _ _ (by omega), pow_mod_div hch.1]
          have h1 : (C.emf j (C.ks.length - j)).length = (C.emf (j + 1) (C.ks.length - (j + 1))).length + 1 := by
            rw [show C.ks.length - j = (C.ks.length - (j + 1)) + 1 by omega, Clo.emf, if_pos y.2]; rfl
          have h2 := emf_le C (C.ks.length - j) (i + 1) (j - (i + 1))
          rw [show i + 1 + (j - (i + 1)) = j by omega, show j - (i + 1) + (C.ks.length - j) = n by omega] at h2
          omega
        · rw [if_neg y, if_neg (fun w => y ⟨by omega, w.2⟩)]
    · rw [if_neg q] at hc ⊢
      rw [ih (i + 1) c C (by omega) hc j hj]
      by_cases z : j = i
      · subst z
        rw [if_neg (by omega), if_neg (fun w => q w.2)]
      · by_cases y : i + 1 ≤ j ∧ C.k j = -1
        · rw [if_pos y, if_pos ⟨by omega, y.2⟩]
        · rw [if_neg y, if_neg (fun w => y ⟨by omega, w.2⟩)]
theorem Clo.fil_ks {C : Clo} (hC : C.ok) {ch c : Nat} (hch : 1 ≤ ch ∧ ch ≤ 4) (hc : c < ch ^ C.ems.length) {j : Nat} (hj : j < C.ks.length) : (Clo.fil ch C.ems c C).ks.getD j 0 = C.dig ch c j := by
  have hb := kk_bd hC j
  have := Clo.fil_dig hch C.ks.length 0 c C (by omega) hc j hj
  unfold Clo.dig Clo.emc
  rw [kk_k hj] at this
  refine this.trans ?_
  by_cases q : C.ks.getD j 0 = -1
  · rw [if_pos ⟨Nat.zero_le _, q⟩, if_pos (by omega)]
  · rw [if_neg (fun z => q z.2), if_neg (by omega)]
theorem Clo.fil_ok {ch : Nat} (hch : 1 ≤ ch ∧ ch ≤ 4) : ∀ (es : List Int) (c : Nat) (C : Clo), C.ok → c < ch ^ es.length → (Clo.fil ch es c C).ok ∧ (Clo.fil ch es c C).st = C.st ∧ (Clo.fil ch es c C).nc = C.nc ∧ (Clo.fil ch es c C).nr = C.nr ∧ (Clo.fil ch es c C).ru = C.ru ∧ (Clo.fil ch es c C).ks.length = C.ks.length := by
  intro es
  induction es with
  | nil => intro c C hC _; exact ⟨hC, rfl, rfl, rfl, rfl, rfl⟩
  | cons e r ih =>
    intro c C hC hc
    obtain ⟨p1, p2⟩ := pow_q hch.1 (show c < ch ^ (r.length + 1) from hc)
    obtain ⟨q1, q2, q3, q4, q5, q6⟩ := ih (c % ch ^ r.length) (C.set e ((c / ch ^ r.length : Nat) : Int)) (Clo.set_ok hC e (nat4 p1 hch.2).2) p2
    exact ⟨q1, q2, q3, q4, q5, q6.trans List.length_set⟩
