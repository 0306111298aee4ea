/-! THE SHADOW MACHINE: one activation of a method over a small heap; refs: 0 the script, 1 the text "lpb", j + 2 the j-th cell made since the law's start -/
abbrev sx_C : Type := (List Int32) ⊕ ((Nat × List (Option Nat)) ⊕ (Nat × List Value))
abbrev sx_H : Type := List (Option sx_C) × Nat
abbrev sx_L : Type := List (Option Value)
abbrev sx_F : Type := Nat × sx_L × List Value
abbrev sx_R : Type := (Option Value ⊕ Nat) × sx_H
abbrev sx_O : Type := (sx_F × sx_H) ⊕ (sx_R ⊕ (Nat × List Value × sx_F × sx_H))
def sx_code (k pc : Nat) : Option (Instr × Nat) := (sx_tab k).lookup pc
def sx_pool (o i : Nat) : Option (Nat × Nat × Nat × Nat) := (sx_pl.find? fun q => q.1 == o && q.2.1 == i).map fun q => q.2.2
def sx_cst (o i : Nat) : Option Int32 := (sx_cl0.find? fun q => q.1 == o && q.2.1 == i).map fun q => q.2.2
def sx_thr (k pc : Nat) : Option (Nat × Nat × Nat × Nat × Bool × String) := (sx_th.find? fun q => q.1 == k && q.2.1 == pc).map fun q => q.2.2
/-- the classes of objects, as vwCl has them -/
def sx_T (c : Nat) : u_T := match c with
  | 0 => TX1
  | 1 => TX2
  | 2 => TX3
  | 3 => TX4
  | 4 => TX7
  | 5 => TX9
  | _ => TX10
def sx_ty (c : Nat) : Nat → FieldType := match c with
  | 0 => tyX1
  | 1 => tyX2
  | 2 => tyX3
  | 3 => tyX4
  | 4 => tyX7
  | 5 => tyX9
  | _ => tyX10
def sx_N (c : Nat) : Nat := match c with
  | 0 => 11
  | 1 => 2
  | 2 => 6
  | 3 => 2
  | 4 => 2
  | 5 => 1
  | _ => 12
/-- what a new object holds -/
def sx_df (c : Nat) : List Value := match c with
  | 0 => [.null, .int 0, .int 0, .int 0, .null, .null, .null, .null, .null, .int 0, .int 0]
  | 1 => [.null, .int 0]
  | 2 => [.null, .null, .null, .null, .null, .int 0]
  | 3 => [.null, .int 0]
  | 4 => [.null, .int 0]
  | 5 => [.null]
  | _ => [.null, .null, .null, .null, .null, .null, .int 0, .int 0, .int 0, .int 0, .int 0, .int 0]
def sx_nx (pc : Nat) (ls : sx_L) (st : List Value) (h : sx_H) : Option sx_O := some (.inl ((pc, ls, st), h))
def sx_dn (o : Option Value ⊕ Nat) (h : sx_H) : Option sx_O := some (.inr (.inl (o, h)))
def sx_ca (j : Nat) (as : List Value) (pc : Nat) (ls : sx_L) (st : List Value) (h : sx_H) : Option sx_O := some (.inr (.inr (j, as, (pc, ls, st), h)))
def sx_get (h : sx_H) (a : Nat) : Option sx_C := match a with
  | a + 2 => match h.1[a]? with
    | some (some c) => some c
    | _ => none
  | _ => none
def sx_set (h : sx_H) (a : Nat) (c : sx_C) : sx_H := (h.1.set (a - 2) (some c), h.2)
def sx_push (h : sx_H) (c : Option sx_C) (n : Nat) : sx_H := (h.1 ++ [c], h.2 + n)
def sx_new (h : sx_H) : Nat := h.1.length + 2
def sx_ints (S : List Int32) (h : sx_H) (a : Nat) : Option (List Int32) := match a with
  | 0 => some S
  | a => match sx_get h a with
    | some (.inl xs) => some xs
    | _ => none
def sx_rf (r : Option Nat) : Value := match r with
  | none => .null
  | some a => .ref a
def sx_i1 (st : List Value) (K : Int32 → List Value → Option sx_O) : Option sx_O := match st with
  | .int x :: r => K x r
  | _ => none
def sx_i2 (st : List Value) (K : Int32 → Int32 → List Value → Option sx_O) : Option sx_O := match st with
  | .int y :: .int x :: r => K x y r
  | _ => none
def sx_jump (pc : Nat) (off : Int) (K : Nat → Option sx_O) : Option sx_O := if 0 ≤ (pc : Int) + off then K ((pc : Int) + off).toNat else none
def sx_br (c : Prop) [Decidable c] (pc : Nat) (off : Int) (ls : sx_L) (r : List Value) (h : sx_H) : Option sx_O :=
  sx_jump pc off fun t => if c then sx_nx t ls r h else sx_nx (pc + 3) ls r h
def sx_cat (v : Value) : Bool := match v with
  | .int _ => true
  | .ref _ => true
  | .null => true
  | _ => false
def sx_isref (v : Value) : Bool := match v with
  | .ref _ => true
  | .null => true
  | _ => false
def sx_obj (h : sx_H) (a : Nat) : Option (Nat × List Value) := match sx_get h a with
  | some (.inr (.inr o)) => some o
  | _ => none
def sx_callV (k idx pc : Nat) (ls : sx_L) (st : List Value) (h : sx_H) : Option sx_O := match sx_pool (sx_own k) idx with
  | some (4, j, _, _) => if sx_np j ≤ st.length ∧ st.length ≤ sx_np j + 8 ∧ (st.drop (sx_np j)).all sx_cat = true then
      match (st.take (sx_np j)).reverse with
      | .ref a :: as => match sx_obj h a with
        | some (ci, _) => if sx_cx (sx_own j) = ci then sx_ca j (.ref a :: as) pc ls (st.drop (sx_np j)) h else none
        | none => none
      | _ => none
    else none
  | some (10, _, _, _) => match st with
    | .int x :: .ref 1 :: r => if x < 0 ∨ 3 ≤ x.toNatClampNeg then none else if r.length ≤ 8 ∧ r.all sx_cat = true then sx_nx (pc + 3) ls (.int ([108, 112, 98].getD x.toNatClampNeg 0) :: r) h else none
    | _ => none
  | _ => none
def sx_callS (k idx pc : Nat) (ls : sx_L) (st : List Value) (h : sx_H) : Option sx_O := match sx_pool (sx_own k) idx with
  | some (t, j, _, _) => if (t = 5 ∨ t = 6) ∧ sx_np j ≤ st.length ∧ st.length ≤ sx_np j + 8 ∧ (st.drop (sx_np j)).all sx_cat = true then sx_ca j (st.take (sx_np j)).reverse pc ls (st.drop (sx_np j)) h else none
  | none => none
def sx_callI (k idx pc : Nat) (ls : sx_L) (st : List Value) (h : sx_H) : Option sx_O := match sx_pool (sx_own k) idx with
  | some (9, _, _, _) => match st with
    | .ref _ :: r => if r.length ≤ 8 ∧ r.all sx_cat = true then sx_nx (pc + 3) ls r h else none
    | _ => none
  | some (t, j, _, _) => if (t = 7 ∨ t = 8) ∧ sx_np j ≤ st.length ∧ st.length ≤ sx_np j + 8 ∧ (st.drop (sx_np j)).all sx_cat = true then
      match (st.take (sx_np j)).reverse with
      | .ref a :: as => sx_ca j (.ref a :: as) pc ls (st.drop (sx_np j)) h
      | _ => none
    else none
  | none => none
def sx_step (S : List Int32) (k : Nat) (i : Instr) (n pc : Nat) (ls : sx_L) (st : List Value) (h : sx_H) : Option sx_O :=
  match i with
  | .iload j => match ls[j]? with
    | some (some (.int x)) => sx_nx (pc + n) ls (.int x :: st) h
    | _ => none
  | .iload_n j => match ls[j.val]? with
    | some (some (.int x)) => sx_nx (pc + n) ls (.int x :: st) h
    | _ => none
  | .aload j => match ls[j]? with
    | some (some (.ref x)) => sx_nx (pc + n) ls (.ref x :: st) h
    | some (some .null) => sx_nx (pc + n) ls (.null :: st) h
    | _ => none
  | .aload_n j => match ls[j.val]? with
    | some (some (.ref x)) => sx_nx (pc + n) ls (.ref x :: st) h
    | some (some .null) => sx_nx (pc + n) ls (.null :: st) h
    | _ => none
  | .istore j => match st with
    | .int x :: r => if j < ls.length then sx_nx (pc + n) (ls.set j (some (.int x))) r h else none
    | _ => none
  | .istore_n j => match st with
    | .int x :: r => if j.val < ls.length then sx_nx (pc + n) (ls.set j.val (some (.int x))) r h else none
    | _ => none
  | .astore j => match st with
    | .ref x :: r => if j < ls.length then sx_nx (pc + n) (ls.set j (some (.ref x))) r h else none
    | .null :: r => if j < ls.length then sx_nx (pc + n) (ls.set j (some .null)) r h else none
    | _ => none
  | .astore_n j => match st with
    | .ref x :: r => if j.val < ls.length then sx_nx (pc + n) (ls.set j.val (some (.ref x))) r h else none
    | .null :: r => if j.val < ls.length then sx_nx (pc + n) (ls.set j.val (some .null)) r h else none
    | _ => none
  | .iinc j d => match ls[j]? with
    | some (some (.int x)) => sx_nx (pc + n) (ls.set j (some (.int (x + Int32.ofInt d)))) st h
    | _ => none
  | .iconst d => sx_nx (pc + n) ls (.int (Int32.ofInt d) :: st) h
  | .bipush d => sx_nx (pc + n) ls (.int (Int8.ofInt d).toInt32 :: st) h
  | .sipush d => sx_nx (pc + n) ls (.int (Int16.ofInt d).toInt32 :: st) h
  | .aconst_null => sx_nx (pc + n) ls (.null :: st) h
  | .ldc idx => match sx_cst (sx_own k) idx with
    | some v => sx_nx (pc + n) ls (.int v :: st) h
    | none => match sx_pool (sx_own k) idx with
      | some (15, _, _, _) => sx_nx (pc + n) ls (.ref 1 :: st) h
      | _ => none
  | .iadd => sx_i2 st fun x y r => sx_nx (pc + n) ls (.int (x + y) :: r) h
  | .isub => sx_i2 st fun x y r => sx_nx (pc + n) ls (.int (x - y) :: r) h
  | .imul => sx_i2 st fun x y r => sx_nx (pc + n) ls (.int (x * y) :: r) h
  | .iand => sx_i2 st fun x y r => sx_nx (pc + n) ls (.int (x &&& y) :: r) h
  | .ior => sx_i2 st fun x y r => sx_nx (pc + n) ls (.int (x ||| y) :: r) h
  | .ixor => sx_i2 st fun x y r => sx_nx (pc + n) ls (.int (x ^^^ y) :: r) h
  | .iushr => sx_i2 st fun x y r => sx_nx (pc + n) ls (.int (x.toUInt32 >>> (y.toUInt32 &&& Int32.toUInt32 31)).toInt32 :: r) h
  | .idiv => sx_i2 st fun x y r => if y = 0 then none else sx_nx (pc + n) ls (.int (x / y) :: r) h
  | .irem => sx_i2 st fun x y r => if y = 0 then none else sx_nx (pc + n) ls (.int (x - x / y * y) :: r) h
  | .dup => match st with
    | v :: r => if sx_cat v = true then sx_nx (pc + n) ls (v :: v :: r) h else none
    | _ => none
  | .dup2 => match st with
    | v :: w :: r => if sx_cat v = true ∧ sx_cat w = true then sx_nx (pc + n) ls (v :: w :: v :: w :: r) h else none
    | _ => none
  | .goto off => sx_jump pc off fun t => sx_nx t ls st h
  | .ifCond .eq off => sx_i1 st fun x r => sx_br (x = 0) pc off ls r h
  | .ifCond .ne off => sx_i1 st fun x r => sx_br (¬ x = 0) pc off ls r h
  | .ifCond .lt off => sx_i1 st fun x r => sx_br (x < 0) pc off ls r h
  | .ifCond .ge off => sx_i1 st fun x r => sx_br (0 ≤ x) pc off ls r h
  | .ifCond .gt off => sx_i1 st fun x r => sx_br (0 < x) pc off ls r h
  | .ifCond .le off => sx_i1 st fun x r => sx_br (x ≤ 0) pc off ls r h
  | .if_icmp .eq off => sx_i2 st fun x y r => sx_br (x = y) pc off ls r h
  | .if_icmp .ne off => sx_i2 st fun x y r => sx_br (¬ x = y) pc off ls r h
  | .if_icmp .lt off => sx_i2 st fun x y r => sx_br (x < y) pc off ls r h
  | .if_icmp .ge off => sx_i2 st fun x y r => sx_br (y ≤ x) pc off ls r h
  | .if_icmp .gt off => sx_i2 st fun x y r => sx_br (y < x) pc off ls r h
  | .if_icmp .le off => sx_i2 st fun x y r => sx_br (x ≤ y) pc off ls r h
  | .ifnonnull off => match st with
    | .ref _ :: r => sx_jump pc off fun t => sx_nx t ls r h
    | .null :: r => sx_nx (pc + 3) ls r h
    | _ => none
  | .getfield idx => match st with
    | .ref a :: r => match sx_pool (sx_own k) idx with
      | some (t, ci, f, _) => if t ≤ 1 then match sx_obj h a with
        | some (cj, fs) => if cj = ci then match fs[f]? with
          | some v => sx_nx (pc + n) ls (v :: r) h
          | none => none
          else none
        | none => none
        else none
      | none => none
    | _ => none
  | .putfield idx => match st with
    | v :: .ref a :: r => match sx_pool (sx_own k) idx with
      | some (t, ci, f, _) => if t ≤ 1 ∧ ((sx_T ci f).2.2.2 = false ∨ (t = 0 ∧ sx_isI k = true ∧ sx_cx (sx_own k) = ci)) ∧ fits (sx_ty ci f) v = true ∧ narrow (sx_ty ci f) v = v then match sx_obj h a with
        | some (cj, fs) => if cj = ci ∧ f < fs.length then sx_nx (pc + n) ls r (sx_set h a (.inr (.inr (ci, fs.set f v)))) else none
        | none => none
        else none
      | none => none
    | _ => none
  | .iaload => match st with
    | .int x :: .ref a :: r => match sx_ints S h a with
      | some xs => if x < 0 ∨ xs.length ≤ x.toNatClampNeg then none else sx_nx (pc + n) ls (.int (xs.getD x.toNatClampNeg 0) :: r) h
      | none => none
    | _ => none
  | .iastore => match st with
    | .int v :: .int x :: .ref a :: r => match sx_get h a with
      | some (.inl xs) => if x < 0 ∨ xs.length ≤ x.toNatClampNeg then none else sx_nx (pc + n) ls r (sx_set h a (.inl (xs.set x.toNatClampNeg v)))
      | _ => none
    | _ => none
  | .arraylength => match st with
    | .ref a :: r => match sx_ints S h a with
      | some xs => sx_nx (pc + n) ls (.int (Int32.ofNat xs.length) :: r) h
      | none => none
    | _ => none
  | .aaload => match st with
    | .int x :: .ref a :: r => match sx_get h a with
      | some (.inr (.inl (t, rs))) => if x < 0 ∨ 2 ≤ t ∨ rs.length ≤ x.toNatClampNeg then none else sx_nx (pc + n) ls (sx_rf (rs.getD x.toNatClampNeg none) :: r) h
      | _ => none
    | _ => none
  | .aastore => match st with
    | .ref v :: .int x :: .ref a :: r => match sx_get h a with
      | some (.inr (.inl (t, rs))) => if t = 0 ∧ (sx_obj h v).map (fun o => o.1) = some 0 then (if x < 0 ∨ rs.length ≤ x.toNatClampNeg then none else sx_nx (pc + n) ls r (sx_set h a (.inr (.inl (t, rs.set x.toNatClampNeg (some v)))))) else none
      | _ => none
    | _ => none
  | .new idx => match sx_pool (sx_own k) idx with
    | some (11, ci, _, _) => if ci < 7 then sx_nx (pc + n) ls (.ref (sx_new h) :: st) (sx_push h (some (.inr (.inr (ci, sx_df ci)))) (sx_N ci)) else none
    | some (13, _, _, _) => match sx_thr k pc with
      | some (_, _, _, e, _, _) => if st.length ≤ 8 ∧ st.all sx_cat = true then sx_dn (.inr e) (sx_push h none 6) else none
      | none => none
    | _ => none
  | .newarray .int => sx_i1 st fun x r => if x < 0 ∨ 65536 < x.toNatClampNeg then none else sx_nx (pc + n) ls (.ref (sx_new h) :: r) (sx_push h (some (.inl (List.replicate x.toNatClampNeg 0))) x.toNatClampNeg)
  | .anewarray idx => sx_i1 st fun x r => match sx_pool (sx_own k) (idx + 100000) with
    | some (12, t, _, _) => if x < 0 ∨ 2 ≤ t ∨ 65536 < x.toNatClampNeg then none else sx_nx (pc + n) ls (.ref (sx_new h) :: r) (sx_push h (some (.inr (.inl (t, List.replicate x.toNatClampNeg none)))) x.toNatClampNeg)
    | _ => none
  | .invokevirtual idx => sx_callV k idx pc ls st h
  | .invokestatic idx => sx_callS k idx pc ls st h
  | .invokespecial idx => sx_callI k idx pc ls st h
  | .ireturn => match st with
    | [.int v] => match sx_rt k with
      | some ty => if narrow ty (.int v) = .int v then sx_dn (.inl (some (.int v))) h else none
      | none => none
    | _ => none
  | .areturn => match st with
    | [v] => match sx_rt k with
      | some (.object _) => if sx_isref v = true then sx_dn (.inl (some v)) h else none
      | _ => none
    | _ => none
  | .return_ => match st with
    | [] => match sx_rt k with
      | none => sx_dn (.inl none) h
      | some _ => none
    | _ => none
  | _ => none
def sx_enter (j : Nat) (as : List Value) : Option sx_F :=
  if as.length = sx_np j ∧ sx_np j ≤ sx_ml j ∧ as.all sx_cat = true then some (0, as.map some ++ List.replicate (sx_ml j - as.length) none, []) else none
def sx_hand (k pc e : Nat) : Option Nat := ((sx_hh k).find? fun q => decide (q.1 ≤ pc) && decide (pc < q.2.1) && sx_cc q.2.2.2 == e).map fun q => q.2.2.1
/-- behind a caught exception: its handler begins with a store of it -/
def sx_caught (k pc : Nat) : Option (Nat × Nat) := match sx_code k pc with
  | some (.astore j, n) => some (pc + n, j)
  | some (.astore_n j, n) => some (pc + n, j.val)
  | _ => none
def sx_run (S : List Int32) : Nat → Nat → sx_F → sx_H → Option sx_R
  | 0, _, _, _ => none
  | n + 1, k, F, h => match sx_code k F.1 with
    | none => none
    | some (i, len) => match sx_step S k i len F.1 F.2.1 F.2.2 h with
      | none => none
      | some (.inl (F1, h1)) => sx_run S n k F1 h1
      | some (.inr (.inl r)) => some r
      | some (.inr (.inr (j, as, F1, h1))) => match sx_enter j as with
        | none => none
        | some G => match sx_run S n j G h1 with
          | none => none
          | some (.inl v, h2) => sx_run S n k (F1.1 + 3, F1.2.1, v.toList ++ F1.2.2) h2
          | some (.inr e, h2) => match sx_hand k F1.1 e with
            | none => some (.inr e, h2)
            | some q => match sx_caught k q with
              | some (pc, j) => if j < F1.2.1.length then sx_run S n k (pc, F1.2.1.set j none, []) h2 else none
              | none => none
theorem sx_run_succ (S : List Int32) : ∀ (n k : Nat) (F : sx_F) (h : sx_H) (r : sx_R), sx_run S n k F h = some r → sx_run S (n + 1) k F h = some r := by
  intro n
  induction n with
  | zero => intro k F h r e; cases e
  | succ n ih =>
    intro k F h r e
    rw [sx_run] at e ⊢
    cases hc : sx_code k F.1 with
    | none => rw [hc] at e; cases e
    | some q =>
      obtain ⟨i, len⟩ := q
      rw [hc] at e
      dsimp only at e ⊢
      cases hs : sx_step S k i len F.1 F.2.1 F.2.2 h with
      | none => rw [hs] at e; cases e
      | some o =>
        rw [hs] at e
        obtain ⟨F1, h1⟩ | r1 | ⟨j, as, F1, h1⟩ := o
        · exact ih _ _ _ _ e
        · exact e
        · dsimp only at e ⊢
          cases hg : sx_enter j as with
          | none => rw [hg] at e; cases e
          | some G =>
            rw [hg] at e
            dsimp only at e ⊢
            cases hr : sx_run S n j G h1 with
            | none => rw [hr] at e; cases e
            | some r1 =>
              rw [hr] at e
              rw [ih _ _ _ _ hr]
              obtain ⟨v | x, h2⟩ := r1
              · exact ih _ _ _ _ e
              · dsimp only at e ⊢
                cases hh : sx_hand k F1.1 x with
                | none => rw [hh] at e; exact e
                | some q =>
                  rw [hh] at e
                  dsimp only at e ⊢
                  cases hq : sx_caught k q with
                  | none => rw [hq] at e; cases e
                  | some z =>
                    rw [hq] at e
                    dsimp only at e ⊢
                    by_cases hl : z.2 < F1.2.1.length
                    · rw [if_pos hl] at e ⊢
                      exact ih _ _ _ _ e
                    · rw [if_neg hl] at e
                      cases e
theorem sx_run_le (S : List Int32) {n m k : Nat} {F : sx_F} {h : sx_H} {r : sx_R} (e : sx_run S n k F h = some r) (hm : n ≤ m) : sx_run S m k F h = some r := by
  induction hm with
  | refl => exact e
  | step _ ih => exact sx_run_succ S _ _ _ _ _ ih
/-- what a frame comes to, if it comes to an end -/
noncomputable def sx_Ev (S : List Int32) (k pc : Nat) (ls : sx_L) (st : List Value) (h : sx_H) : Option sx_R :=
  @dite _ (∃ (r : sx_R) (n : Nat), sx_run S n k (pc, ls, st) h = some r) (Classical.propDecidable _) (fun q => some (Classical.choose q)) (fun _ => none)
theorem sx_Ev_iff {S : List Int32} {k pc : Nat} {ls : sx_L} {st : List Value} {h : sx_H} {r : sx_R} : sx_Ev S k pc ls st h = some r ↔ ∃ n, sx_run S n k (pc, ls, st) h = some r := by
  by_cases q : ∃ (r : sx_R) (n : Nat), sx_run S n k (pc, ls, st) h = some r
  · obtain ⟨n, hn⟩ := Classical.choose_spec q
    have e : sx_Ev S k pc ls st h = some (Classical.choose q) := by
      unfold sx_Ev
      exact dif_pos q
    rw [e]
    constructor
    · intro h1
      exact ⟨n, by rw [hn]; exact h1⟩
    · rintro ⟨m, hm⟩
      have h1 := sx_run_le S hn (Nat.le_max_left n m)
      have h2 := sx_run_le S hm (Nat.le_max_right n m)
      rw [← h1, h2]
  · have e : sx_Ev S k pc ls st h = none := by
      unfold sx_Ev
      exact dif_neg q
    rw [e]
    constructor
    · intro h1; cases h1
    · rintro ⟨m, hm⟩
      exact absurd ⟨r, m, hm⟩ q
theorem sx_Ev_none {S : List Int32} {k pc : Nat} {ls : sx_L} {st : List Value} {h : sx_H} (q : ∀ r n, sx_run S n k (pc, ls, st) h ≠ some r) : sx_Ev S k pc ls st h = none := by
  cases e : sx_Ev S k pc ls st h with
  | none => rfl
  | some r =>
    obtain ⟨n, hn⟩ := sx_Ev_iff.mp e
    exact absurd hn (q r n)
theorem sx_Ev_ext {S : List Int32} {k pc : Nat} {ls : sx_L} {st : List Value} {h : sx_H} {o : Option sx_R} (q : ∀ r, (∃ n, sx_run S n k (pc, ls, st) h = some r) ↔ o = some r) : sx_Ev S k pc ls st h = o := by
  cases e : o with
  | none =>
    refine sx_Ev_none fun r n hn => ?_
    have := (q r).mp ⟨n, hn⟩
    rw [e] at this
    cases this
  | some r => exact sx_Ev_iff.mpr ((q r).mpr e)
/-- a call: what the callee comes to -/
noncomputable def sx_Cl (S : List Int32) (j : Nat) (as : List Value) (h : sx_H) : Option sx_R := match sx_enter j as with
  | none => none
  | some G => sx_Ev S j G.1 G.2.1 G.2.2 h
/-- behind a call -/
noncomputable def sx_back (S : List Int32) (k pc : Nat) (ls : sx_L) (st : List Value) (o : Option sx_R) : Option sx_R := match o with
  | none => none
  | some (.inl v, h2) => sx_Ev S k (pc + 3) ls (v.toList ++ st) h2
  | some (.inr e, h2) => match sx_hand k pc e with
    | none => some (.inr e, h2)
    | some q => match sx_caught k q with
      | some (pc1, j) => if j < ls.length then sx_Ev S k pc1 (ls.set j none) [] h2 else none
      | none => none
theorem sx_Ev_go {S : List Int32} {k pc : Nat} {ls : sx_L} {st : List Value} {h : sx_H} {i : Instr} {len : Nat} {F1 : sx_F} {h1 : sx_H} (hc : sx_code k pc = some (i, len)) (hs : sx_step S k i len pc ls st h = some (.inl (F1, h1))) : sx_Ev S k pc ls st h = sx_Ev S k F1.1 F1.2.1 F1.2.2 h1 := by
  refine sx_Ev_ext fun r => ?_
  rw [sx_Ev_iff]
  constructor
  · rintro ⟨n, hn⟩
    cases n with
    | zero => cases hn
    | succ n =>
      rw [sx_run] at hn
      simp only [hc, hs] at hn
      exact ⟨n, hn⟩
  · rintro ⟨n, hn⟩
    refine ⟨n + 1, ?_⟩
    rw [sx_run]
    simp only [hc, hs]
    exact hn
theorem sx_Ev_done {S : List Int32} {k pc : Nat} {ls : sx_L} {st : List Value} {h : sx_H} {i : Instr} {len : Nat} {r : sx_R} (hc : sx_code k pc = some (i, len)) (hs : sx_step S k i len pc ls st h = some (.inr (.inl r))) : sx_Ev S k pc ls st h = some r :=
  sx_Ev_iff.mpr ⟨1, by rw [sx_run]; simp only [hc, hs]⟩
theorem sx_Ev_call {S : List Int32} {k pc : Nat} {ls : sx_L} {st : List Value} {h : sx_H} {i : Instr} {len j : Nat} {as : List Value} {ls1 : sx_L} {st1 : List Value} {pc1 : Nat} {h1 : sx_H} (hc : sx_code k pc = some (i, len)) (hs : sx_step S k i len pc ls st h = some (.inr (.inr (j, as, (pc1, ls1, st1), h1)))) : sx_Ev S k pc ls st h = sx_back S k pc1 ls1 st1 (sx_Cl S j as h1) := by
  refine sx_Ev_ext fun r => ?_
  unfold sx_Cl
  cases hg : sx_enter j as with
  | none =>
    constructor
    · rintro ⟨n, hn⟩
      cases n with
      | zero => cases hn
      | succ n =>
        rw [sx_run] at hn
        simp only [hc, hs, hg] at hn
        cases hn
    · intro h9
      cases h9
  | some G =>
    dsimp only
    constructor
    · rintro ⟨n, hn⟩
      cases n with
      | zero => cases hn
      | succ n =>
        rw [sx_run] at hn
        simp only [hc, hs, hg] at hn
        cases hr : sx_run S n j G h1 with
        | none => rw [hr] at hn; cases hn
        | some r1 =>
          have e1 : sx_Ev S j G.1 G.2.1 G.2.2 h1 = some r1 := sx_Ev_iff.mpr ⟨n, hr⟩
          rw [e1]
          rw [hr] at hn
          obtain ⟨v | x, h2⟩ := r1
          · exact sx_Ev_iff.mpr ⟨n, hn⟩
          · unfold sx_back
            dsimp only at hn ⊢
            cases hh : sx_hand k pc1 x with
            | none => rw [hh] at hn; exact hn
            | some q =>
              rw [hh] at hn
              dsimp only at hn ⊢
              cases hq : sx_caught k q with
              | none => rw [hq] at hn; cases hn
              | some z =>
                rw [hq] at hn
                obtain ⟨z1, z2⟩ := z
                dsimp only at hn ⊢
                by_cases hl : z2 < ls1.length
                · rw [if_pos hl] at hn ⊢
                  exact sx_Ev_iff.mpr ⟨n, hn⟩
                · rw [if_neg hl] at hn
                  cases hn
    · intro h9
      cases e1 : sx_Ev S j G.1 G.2.1 G.2.2 h1 with
      | none => rw [e1] at h9; cases h9
      | some r1 =>
        rw [e1] at h9
        obtain ⟨n1, hr⟩ := sx_Ev_iff.mp e1
        obtain ⟨v | x, h2⟩ := r1
        · obtain ⟨n2, hn⟩ := sx_Ev_iff.mp (show sx_Ev S k (pc1 + 3) ls1 (v.toList ++ st1) h2 = some r from h9)
          refine ⟨max n1 n2 + 1, ?_⟩
          rw [sx_run]
          have a1 : sx_run S (max n1 n2) j G h1 = some (.inl v, h2) := sx_run_le S hr (Nat.le_max_left _ _)
          simp only [hc, hs, hg, a1]
          exact sx_run_le S hn (Nat.le_max_right _ _)
        · unfold sx_back at h9
          dsimp only at h9
          cases hh : sx_hand k pc1 x with
          | none =>
            rw [hh] at h9
            refine ⟨n1 + 1, ?_⟩
            rw [sx_run]
            have a1 : sx_run S n1 j G h1 = some (.inr x, h2) := hr
            simp only [hc, hs, hg, a1, hh]
            exact h9
          | some q =>
            rw [hh] at h9
            dsimp only at h9
            cases hq : sx_caught k q with
            | none => rw [hq] at h9; cases h9
            | some z =>
              rw [hq] at h9
              obtain ⟨z1, z2⟩ := z
              dsimp only at h9
              by_cases hl : z2 < ls1.length
              · rw [if_pos hl] at h9
                obtain ⟨n2, hn⟩ := sx_Ev_iff.mp h9
                refine ⟨max n1 n2 + 1, ?_⟩
                rw [sx_run]
                have a1 : sx_run S (max n1 n2) j G h1 = some (.inr x, h2) := sx_run_le S hr (Nat.le_max_left _ _)
                simp only [hc, hs, hg, a1, hh, hq, if_pos hl]
                exact sx_run_le S hn (Nat.le_max_right _ _)
              · rw [if_neg hl] at h9
                cases h9
