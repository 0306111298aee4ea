/-! THE WAYS, counted by trying -/
def Clo.bd (C : Clo) (e : Int) : Bool := C.bad (e / C.nc) (e - e / C.nc * C.nc)
/-- over the next n kinds from v on in the cell e -/
def nwk (f : Clo → Int) (C : Clo) (e : Int) : Nat → Nat → Int
  | _, 0 => 0
  | v, n + 1 => (if (C.set e v).bd e = true then 0 else f (C.set e v)) + nwk f C e (v + 1) n
def Clo.nw (ch : Nat) : List Int → Clo → Int
  | [], _ => 1
  | e :: r, C => nwk (Clo.nw ch r) C e 0 ch
def sx_TT : Nat → Nat
  | 0 => 1
  | n + 1 => 4 * (1 + sx_TT n) + 1
theorem set_set (C : Clo) (e a b : Int) : (C.set e a).set e b = C.set e b := by
  show (C.1, C.2.1, C.2.2.1, (C.2.2.2.1.set e.toNat a).set e.toNat b, C.2.2.2.2) = _
  rw [List.set_set]; rfl
theorem set_k {C : Clo} {e a : Int} (he : 0 ≤ e ∧ e < C.ks.length) : (C.set e a).k e = a := by
  unfold Clo.k
  have hl : (C.set e a).ks.length = C.ks.length := List.length_set ..
  rw [if_pos (by rw [hl]; exact he)]
  show (C.ks.set e.toNat a).getD e.toNat 0 = a
  rw [List.getD_eq_getElem?_getD, List.getElem?_set_self (by omega)]
  rfl
theorem set_kn {C : Clo} {e x a : Int} (he : 0 ≤ e) (hx : 0 ≤ x) (hne : x ≠ e) : (C.set e a).k x = C.k x := by
  unfold Clo.k
  have hl : (C.set e a).ks.length = C.ks.length := List.length_set ..
  rw [hl]
  show (if _ then (C.ks.set e.toNat a).getD x.toNat 0 else -1) = _
  rw [List.getD_eq_getElem?_getD, List.getElem?_set_ne (by omega), ← List.getD_eq_getElem?_getD]
theorem set_id {C : Clo} {e : Int} (he : 0 ≤ e ∧ e < C.ks.length) (hk : C.k e = -1) : C.set e (-1) = C := by
  unfold Clo.k at hk
  rw [if_pos he, List.getD_eq_getElem?_getD, List.getElem?_eq_getElem (by omega)] at hk
  have hk : C.ks[e.toNat]'(by omega) = -1 := hk
  show (C.1, C.2.1, C.2.2.1, C.ks.set e.toNat (-1), C.2.2.2.2) = C
  rw [← hk, List.set_getElem_self]
  rfl
theorem nwk_bd {f : Clo → Int} {C : Clo} {e : Int} {M : Int} (hM : 0 ≤ M) (hf : ∀ D, 0 ≤ f D ∧ f D ≤ M) : ∀ n v, 0 ≤ nwk f C e v n ∧ nwk f C e v n ≤ M * n := by
  intro n
  induction n with
  | zero => intro v; simp [nwk]
  | succ n ih =>
    intro v
    have h1 := ih (v + 1)
    have h2 := hf (C.set e v)
    have e2 : M * ((n + 1 : Nat) : Int) = M * n + M := by rw [Int.natCast_add, Int.mul_add]; simp
    show 0 ≤ (if _ then 0 else _) + nwk f C e (v + 1) n ∧ (if _ then 0 else _) + nwk f C e (v + 1) n ≤ _
    split <;> omega
def sx_P4 : Nat → Nat
  | 0 => 1
  | n + 1 => 4 * sx_P4 n
theorem nw_bd {ch : Nat} (hch : ch ≤ 4) : ∀ (r : List Int) (C : Clo), 0 ≤ Clo.nw ch r C ∧ Clo.nw ch r C ≤ sx_P4 r.length := by
  intro r
  induction r with
  | nil => intro C; show (0 : Int) ≤ 1 ∧ (1 : Int) ≤ 1; omega
  | cons e r ih =>
    intro C
    have := nwk_bd (f := Clo.nw ch r) (C := C) (e := e) (M := sx_P4 r.length) (by omega) ih ch 0
    show 0 ≤ nwk _ C e 0 ch ∧ nwk _ C e 0 ch ≤ ((4 * sx_P4 r.length : Nat) : Int)
    have h2 : (sx_P4 r.length : Int) * ch ≤ sx_P4 r.length * 4 := Int.mul_le_mul_of_nonneg_left (by omega) (by omega)
    omega
theorem P4_bd {n : Nat} (h : n ≤ 6) : sx_P4 n ≤ 4096 := by
  rcases (show n = 0 ∨ n = 1 ∨ n = 2 ∨ n = 3 ∨ n = 4 ∨ n = 5 ∨ n = 6 by omega) with e | e | e | e | e | e | e <;> subst e <;> decide
theorem T_bd {n : Nat} (h : n ≤ 6) : sx_TT n ≤ 10921 := by
  rcases (show n = 0 ∨ n = 1 ∨ n = 2 ∨ n = 3 ∨ n = 4 ∨ n = 5 ∨ n = 6 by omega) with e | e | e | e | e | e | e <;> subst e <;> decide
