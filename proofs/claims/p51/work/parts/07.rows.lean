/-! THE REAL HEAP against the shadow heap, and the machine's rows over it -/
def sx_ad (b sa base : Nat) (a : Nat) : Nat := match a with
  | 0 => b
  | 1 => sa
  | a + 2 => base + a
def sx_cv (g : Nat → Nat) (v : Value) : Value := match v with
  | .ref a => .ref (g a)
  | v => v
def sx_ce (g : Nat → Nat) (cA : Nat → ClassId) (c : sx_C) : va_E := match c with
  | .inl xs => .inl (cA 0, xs.length, .inl (fun j => xs.getD j 0))
  | .inr (.inl (t, rs)) => .inl (cA (t + 1), rs.length, .inr (.inr (.inr (.inr (fun j => (rs.getD j none).map g)))))
  | .inr (.inr (ci, fs)) => .inr (ci, fs.map (sx_cv g))
def sx_tys (cA : Nat → ClassId) : List (ClassId × FieldType) := [(cA 0, .int), (cA 1, .object (sx_eo 0)), (cA 2, .object (sx_eo 1))]
def sx_Rep (D : va_G) (g : Nat → Nat) (cA : Nat → ClassId) (base : Nat) (h : sx_H) (H : Heap) : Prop :=
  H.size = base + h.1.length ∧ ∀ (i : Nat) (c : sx_C), h.1[i]? = some (some c) → va_at D vwCl (base + i, sx_ce g cA c) H
def sx_A (base : Nat) : Nat → Prop := fun q => base ≤ q
def sx_Env (D : va_G) (cA : Nat → ClassId) (b sa sv base : Nat) (S : List Int32) (U : State) : Prop :=
  va_K D vwCl (sx_tys cA) U ∧ (va_X b S.length (fun j => S.getD j 0) U U.heap ∧ b < base ∧ base ≤ U.heap.size) ∧ (∀ w ∈ sx_NB, va_Nw w U) ∧ (va_AO (sx_eo 0) U ∧ va_AO (sx_eo 1) U) ∧
  ((∀ q ∈ sx_th, ∃ a, vk_R RX10 q.2.2.2.1 q.2.2.2.2.2.2.2 a U) ∧ vk_R RL 111 "lpb" sa U) ∧
  (vx_Zq Bundle.tN "UNASSIGNED_STACK" Bundle.steD (sx_A base) U U.heap ∧ vx_Zq Bundle.tN "SUPPRESSED_SENTINEL" Bundle.listD (sx_A base) U U.heap) ∧
  (∀ i j, i < 5 → j < 5 → i ≠ j → va_Nc (sx_en i) (sx_en j) U) ∧
  vk_S 1 [3] [[108, 112, 98]] (fun _ => sa) (fun _ => sv) (sx_A base) U U.heap ∧ va_Z "java/lang/String" "COMPACT_STRINGS" "Z" (.int 1) (sx_A base) U U.heap ∧ va_Zq "jdk/internal/util/Preconditions" "SIOOBE_FORMATTER" "Ljava/util/function/BiFunction;" (sx_A base) U U.heap
theorem sx_NBw {w : Cond} {s U : State} (hw : w ∈ sx_NB) (hW : s.WarmedH U.vm) (h : va_Nw w s) : va_Nw w U := by
  have g := (List.mem_filter.mp hw).2
  cases w <;> first
    | exact va_Nw.warmF hW h
    | exact va_Nw.warmM hW h
    | exact va_Nw.warmD hW h
    | exact va_Nw.warmC hW h
    | cases g
theorem sx_Env.moved {D : va_G} {cA : Nat → ClassId} {b sa sv base : Nat} {S : List Int32} {s U : State} (h : sx_Env D cA b sa sv base S s) (hW : s.WarmedH U.vm) (hb : base ≤ U.heap.size) (hk : ∀ q : Nat, q < base → U.heap[q]? = s.heap[q]?) : sx_Env D cA b sa sv base S U := by
  obtain ⟨h1, ⟨h2, h3, h4⟩, h5, ⟨h6, h7⟩, ⟨h8, h9⟩, ⟨h10, h11⟩, h12, h13, h14, h15⟩ := h
  have hv := hW.alike
  have hq : ∀ a : Nat, a < s.heap.size → ¬ sx_A base a → U.heap[a]? = s.heap[a]? := fun a _ h => hk a (Nat.lt_of_not_le h)
  exact ⟨h1.moved hv, ⟨(h2.moved hv).kept (hk b h3), h3, hb⟩, fun w hw => sx_NBw hw hW (h5 w hw), ⟨h6.moved hv, h7.moved hv⟩, ⟨fun q hq => (h8 q hq).imp fun a h => vk_R.warm hW h, vk_R.warm hW h9⟩,
    ⟨(h10.moved hv).kept hq, (h11.moved hv).kept hq⟩, fun i j hi hj hij => (h12 i j hi hj hij).moved hv, (h13.moved hv).kept hq, (h14.moved hv).kept hq, (h15.moved hv).kept hq⟩
theorem sx_get_some {h : sx_H} {a : Nat} {c : sx_C} (e : sx_get h a = some c) : ∃ i, a = i + 2 ∧ h.1[i]? = some (some c) := by
  unfold sx_get at e
  split at e
  · rename_i i
    split at e
    · rename_i c' hc
      cases e
      exact ⟨i, rfl, hc⟩
    · cases e
  · cases e
theorem sx_obj_some {h : sx_H} {a : Nat} {o : Nat × List Value} (e : sx_obj h a = some o) : sx_get h a = some (.inr (.inr o)) := by
  unfold sx_obj at e
  split at e
  · rename_i o' ho
    cases e
    exact ho
  · cases e
theorem sx_cv_fits (g : Nat → Nat) (ty : FieldType) (v : Value) : fits ty (sx_cv g v) = fits ty v := by
  cases v <;> cases ty <;> rfl
theorem sx_cv_narrow (g : Nat → Nat) (ty : FieldType) (v : Value) (h : narrow ty v = v) : narrow ty (sx_cv g v) = sx_cv g v := by
  cases v <;> cases ty <;> first | exact h | rfl
section SXR
variable {D : va_G} {cA : Nat → ClassId} {b sa base : Nat} {h : sx_H} {H H1 : Heap}
theorem sx_Rep.at (hR : sx_Rep D (sx_ad b sa base) cA base h H) {a : Nat} {c : sx_C} (e : sx_get h a = some c) : va_at D vwCl (sx_ad b sa base a, sx_ce (sx_ad b sa base) cA c) H ∧ base ≤ sx_ad b sa base a := by
  obtain ⟨i, rfl, h1⟩ := sx_get_some e
  exact ⟨hR.2 i c h1, Nat.le_add_right _ _⟩
theorem sx_Rep.set (hR : sx_Rep D (sx_ad b sa base) cA base h H) {a : Nat} {c0 c : sx_C} (e : sx_get h a = some c0) (hc : va_at D vwCl (sx_ad b sa base a, sx_ce (sx_ad b sa base) cA c) H1) (hz : H1.size = H.size) (hq : ∀ q, q ≠ sx_ad b sa base a → H1[q]? = H[q]?) : sx_Rep D (sx_ad b sa base) cA base (sx_set h a c) H1 := by
  obtain ⟨i, rfl, h1⟩ := sx_get_some e
  refine ⟨by rw [hz, hR.1]; simp [sx_set], fun j c' hj => ?_⟩
  have hj' : (h.1.set i (some c))[j]? = some (some c') := hj
  by_cases hij : j = i
  · subst hij
    rw [List.getElem?_set_self (List.getElem?_eq_some_iff.mp h1).1] at hj'
    cases hj'
    exact hc
  · rw [List.getElem?_set_ne (Ne.symm hij)] at hj'
    exact (hR.2 j c' hj').kept (hq _ (by show base + j ≠ base + i; omega))
theorem sx_Rep.push (hR : sx_Rep D (sx_ad b sa base) cA base h H) {c : Option sx_C} {n : Nat} (hc : ∀ x, c = some x → va_at D vwCl (base + h.1.length, sx_ce (sx_ad b sa base) cA x) H1) (hz : H1.size = H.size + 1) (hq : ∀ q, q < H.size → H1[q]? = H[q]?) : sx_Rep D (sx_ad b sa base) cA base (sx_push h c n) H1 := by
  refine ⟨by rw [hz, hR.1]; simp [sx_push]; omega, fun j c' hj => ?_⟩
  have hj' : (h.1 ++ [c])[j]? = some (some c') := hj
  by_cases hl : j < h.1.length
  · rw [List.getElem?_append_left hl] at hj'
    exact (hR.2 j c' hj').kept (hq _ (by rw [hR.1]; show base + j < _; omega))
  · have hlt := (List.getElem?_eq_some_iff.mp hj').1
    rw [List.length_append, List.length_singleton] at hlt
    have hj0 : j = h.1.length := by omega
    subst hj0
    rw [List.getElem?_append_right (Nat.le_refl _), Nat.sub_self] at hj'
    cases hj'
    exact hc _ rfl
theorem sx_Rep.kept (hR : sx_Rep D (sx_ad b sa base) cA base h H) (hz : H1.size = H.size) (hq : ∀ q, q < H.size → H1[q]? = H[q]?) : sx_Rep D (sx_ad b sa base) cA base h H1 :=
  ⟨by rw [hz]; exact hR.1, fun i c hi => (hR.2 i c hi).kept (hq _ (by
    have := (List.getElem?_eq_some_iff.mp hi).1
    rw [hR.1]; show base + i < _; omega))⟩
end SXR
section SXW
variable {p : Program} {l : Launch} {e : Env} {R : Room} {s : State} {m : MethodId} {args : Array Value} {below : List Frame} {meth : Method} {c : Code} {H : Heap} {locs : List Loc} {cells slots : Nat} {Q : State → Prop}
variable {cc : ByteArray} {pc : Nat} {ls : Array Slot} {rest : List Value} {D : va_G} {cA : Nat → ClassId} {b sa base : Nat} {h : sx_H} {H0 : Heap}
theorem sx_rgetf (hexec : p.tables.exec = Jvm.exec) (hb : c.code = cc) {own : String} {index ci k a : Nat} {fs : List Value} {v : Value} (hts : ∀ w ∈ sx_W, w.before args s = true) (hown : s.vm.findClass own = some m.cls) (hK : va_K D vwCl (sx_tys cA) s) (hR : sx_Rep D (sx_ad b sa base) cA base h H)
    (ho : sx_obj h a = some (ci, fs)) (hc : ci < 7) (hk : k < sx_N ci) (hlink : (Cond.fieldLink own index (sx_RN ci) (sx_T ci k).2.1 (sx_T ci k).2.2.1).before args s = true ∨ (Cond.fieldLinkNest own index (sx_RN ci) (sx_T ci k).2.1 (sx_T ci k).2.2.1 "Beadslant").before args s = true) (hv : fs[k]? = some v) (hdg : decode cc pc = .ok (.getfield index, 3))
    (kk : W p l e R s m args below meth c H locs cells slots Q (F0 m (pc + 3) ls (sx_cv (sx_ad b sa base) v :: rest))) : W p l e R s m args below meth c H locs cells slots Q (F0 m pc ls (.ref (sx_ad b sa base a) :: rest)) := by
  have hP : va_P D vwCl [(sx_ad b sa base a, .inr (ci, fs.map (sx_cv (sx_ad b sa base))))] H := by
    intro i q hq
    match i, hq with
    | 0, hq => cases hq; exact (hR.at (sx_obj_some ho)).1
    | i + 1, hq => simp at hq
  have hv' : (fs.map (sx_cv (sx_ad b sa base)))[k]? = some (sx_cv (sx_ad b sa base) v) := by rw [List.getElem?_map, hv]; rfl
  have hsame : ∀ x, s.fieldFound? (sx_T ci k).1 (sx_T ci k).2.1 (sx_T ci k).2.2.1 = some x → s.fieldFound? (sx_RN ci) (sx_T ci k).2.1 (sx_T ci k).2.2.1 = some x := fun x hx => by rw [← sx_hdecl ci hc k hk]; exact hx
  rcases hlink with hlink | hlink
  · exact va_get hexec hb hts (sx_hin ci hc) hown hK hP 0 rfl (sx_vw ci hc) k hk hlink hsame hv' hdg kk
  · exact va_getN hexec hb hts (sx_hin ci hc) hown hK hP 0 rfl (sx_vw ci hc) k hk hlink hsame hv' hdg kk
theorem sx_rputf (hexec : p.tables.exec = Jvm.exec) (hb : c.code = cc) {own : String} {index ci k a : Nat} {fs : List Value} {v : Value} (hts : ∀ w ∈ sx_W, w.before args s = true) (hown : s.vm.findClass own = some m.cls) (hK : va_K D vwCl (sx_tys cA) s) (hR : sx_Rep D (sx_ad b sa base) cA base h H) (hS0 : va_S (sx_A base) H0 H locs)
    (ho : sx_obj h a = some (ci, fs)) (hc : ci < 7) (hk : k < sx_N ci) (hl : k < fs.length)
    (hlink : ((Cond.fieldLink own index (sx_RN ci) (sx_T ci k).2.1 (sx_T ci k).2.2.1).before args s = true ∧ ((sx_T ci k).2.2.2 = false ∨ ((sx_T ci k).2.2.2 = true ∧ meth.name = "<init>" ∧ sx_RN ci = own))) ∨ ((Cond.fieldLinkNest own index (sx_RN ci) (sx_T ci k).2.1 (sx_T ci k).2.2.1 "Beadslant").before args s = true ∧ (sx_T ci k).2.2.2 = false))
    (hfit : fits (sx_ty ci k) v = true) (hn : narrow (sx_ty ci k) v = v) (hdg : decode cc pc = .ok (.putfield index, 3))
    (kk : ∀ (H1 : Heap) (locs1 : List Loc), sx_Rep D (sx_ad b sa base) cA base (sx_set h a (.inr (.inr (ci, fs.set k v)))) H1 → va_S (sx_A base) H0 H1 locs1 → W p l e R s m args below meth c H1 locs1 cells slots Q (F0 m (pc + 3) ls rest)) : W p l e R s m args below meth c H locs cells slots Q (F0 m pc ls (sx_cv (sx_ad b sa base) v :: .ref (sx_ad b sa base a) :: rest)) := by
  have hget := sx_obj_some ho
  obtain ⟨hat, hge⟩ := hR.at hget
  have hin := sx_hin ci hc
  have hap := va_apart (own := own) hts hin (sx_ty ci) (sx_hty ci hc) (sx_hnm ci hc) hK (sx_vw ci hc)
  obtain ⟨r, h1, cell, q1, q2, q3, q4⟩ := hat
  have hr : r = (sx_RN ci, sx_T ci, sx_N ci) := Option.some.inj (h1.symm.trans (sx_vw ci hc))
  subst hr
  obtain ⟨hS, hfc, kC, hkC, hkind⟩ := hK.1 ci _ (sx_vw ci hc)
  obtain ⟨cf, kf, fi, f, hi, hsl⟩ := hS k hk
  have hlay := hts _ (hin _ (u_in_lay hk))
  have hst := (u_facts hfc hkC (u_lays hts hin hk) hi).1
  have hsame : s.fieldFound? (sx_RN ci) (sx_T ci k).2.1 (sx_T ci k).2.2.1 = some (cf, kf, fi, f) := by rw [← sx_hdecl ci hc k hk]; exact hi
  have hfit' : fits (sx_ty ci k) (sx_cv (sx_ad b sa base) v) = true := by rw [sx_cv_fits]; exact hfit
  have hn' := sx_cv_narrow (sx_ad b sa base) _ _ hn
  have fin : ∀ H' : Heap, H'[sx_ad b sa base a]? = some (cell.setSlot f.slot (sx_cv (sx_ad b sa base) v)) → H'.size = H.size → (∀ q, q ≠ sx_ad b sa base a → H'[q]? = H[q]?) → W p l e R s m args below meth c H' (locs ++ [⟨sx_ad b sa base a, f.slot⟩]) cells slots Q (F0 m (pc + 3) ls rest) := by
    intro H' e1 e2 e3
    refine kk H' _ (hR.set hget ?_ e2 e3) (hS0.put e2 e3 hge)
    rw [hsl] at e1
    refine ⟨_, sx_vw ci hc, t_OB.to (V := updV (vp_V (fs.map (sx_cv (sx_ad b sa base)))) k (sx_cv (sx_ad b sa base) v)) ⟨_, e1, q2, q3, t_set q4 hap hk _⟩ (fun j _ => ?_)⟩
    rw [vp_updV_set (by rw [List.length_map]; exact hl)]
    show _ = vp_V ((fs.set k v).map (sx_cv (sx_ad b sa base))) j
    rw [List.map_set]
  have hlt : f.slot < cell.slots.size := by rw [hsl]; exact k2_hasslot (q4 k hk)
  unfold u_lay at hlay
  rcases hlink with ⟨hlink, hf | ⟨hf, hin2, hdecl⟩⟩ | ⟨hlink, hf⟩
  · rw [if_neg (by rw [hf]; decide)] at hlay
    exact W.putK hexec hb (f := f) ⟨hown, hlink, ⟨_, _, _, hsame⟩, hst⟩ (by rw [q2]; exact u_store hfc hkC hkind hlay hi (sx_hty ci hc k hk) hn' hfit') q1 q3 hlt rfl rfl hdg fin
  · rw [if_pos hf] at hlay
    have hcf : m.cls = cf := by
      obtain ⟨_, _, c', _, _, _, -, -, hf', -, -, -, hown2, -⟩ := Cond.laysFinal_spec hlay
      have e1 : c' = cf := by have := hi.symm.trans hf'; simp at this; exact this.1.symm
      rw [sx_hdecl ci hc k hk, hdecl] at hown2
      rw [← e1]; exact Option.some.inj (hown.symm.trans hown2)
    exact W.putFinK hexec hb hown hlink hsame hst hcf hin2 (by rw [q2]; exact u_fits hfc hkC hkind (Or.inr hlay) hi (sx_hty ci hc k hk) hn' hfit') q1 q3 hlt rfl rfl hdg fin
  · rw [if_neg (by rw [hf]; decide)] at hlay
    exact va_WputK hexec hb (f := f) hown hlink hsame hst (by rw [q2]; exact u_store hfc hkC hkind hlay hi (sx_hty ci hc k hk) hn' hfit') q1 q3 hlt rfl rfl hdg fin
theorem sx_sing {a : Nat} {x : va_E} (h1 : va_at D vwCl (a, x) H) : va_P D vwCl [(a, x)] H := by
  intro i q hq
  match i, hq with
  | 0, hq => cases hq; exact h1
  | i + 1, hq => simp at hq
theorem sx_riald (hexec : p.tables.exec = Jvm.exec) (hb : c.code = cc) {a : Nat} {xs : List Int32} {i : Int32} (hK : va_K D vwCl (sx_tys cA) s) (hR : sx_Rep D (sx_ad b sa base) cA base h H) (hg : sx_get h a = some (.inl xs)) (hin : vp_in i xs.length) (hdg : decode cc pc = .ok (.iaload, 1))
    (kk : W p l e R s m args below meth c H locs cells slots Q (F0 m (pc + 1) ls (.int (xs.getD i.toNatClampNeg 0) :: rest))) : W p l e R s m args below meth c H locs cells slots Q (F0 m pc ls (.int i :: .ref (sx_ad b sa base a) :: rest)) :=
  va_iald hexec hb hK (sx_sing (hR.at hg).1) 0 0 rfl rfl hin hdg kk
theorem sx_raald (hexec : p.tables.exec = Jvm.exec) (hb : c.code = cc) {a t : Nat} {rs : List (Option Nat)} {i : Int32} (ht : t < 2) (hK : va_K D vwCl (sx_tys cA) s) (hR : sx_Rep D (sx_ad b sa base) cA base h H) (hg : sx_get h a = some (.inr (.inl (t, rs)))) (hin : vp_in i rs.length) (hdg : decode cc pc = .ok (.aaload, 1))
    (kk : W p l e R s m args below meth c H locs cells slots Q (F0 m (pc + 1) ls (sx_cv (sx_ad b sa base) (sx_rf (rs.getD i.toNatClampNeg none)) :: rest))) : W p l e R s m args below meth c H locs cells slots Q (F0 m pc ls (.int i :: .ref (sx_ad b sa base a) :: rest)) := by
  have e : va_rf ((rs.getD i.toNatClampNeg none).map (sx_ad b sa base)) = sx_cv (sx_ad b sa base) (sx_rf (rs.getD i.toNatClampNeg none)) := by
    cases rs.getD i.toNatClampNeg none <;> rfl
  have tt : (sx_tys cA)[t + 1]? = some (cA (t + 1), .object (sx_eo t)) := by
    match t, ht with
    | 0, _ => rfl
    | 1, _ => rfl
    | t + 2, h => omega
  exact va_aldq hexec hb hK (sx_sing (hR.at hg).1) 0 (t + 1) rfl tt hin hdg (by rw [e]; exact kk)
theorem sx_ralen (hexec : p.tables.exec = Jvm.exec) (hb : c.code = cc) {a : Nat} {xs : List Int32} (hK : va_K D vwCl (sx_tys cA) s) (hR : sx_Rep D (sx_ad b sa base) cA base h H) (hg : sx_get h a = some (.inl xs)) (hdg : decode cc pc = .ok (.arraylength, 1))
    (kk : W p l e R s m args below meth c H locs cells slots Q (F0 m (pc + 1) ls (.int (Int32.ofNat xs.length) :: rest))) : W p l e R s m args below meth c H locs cells slots Q (F0 m pc ls (.ref (sx_ad b sa base a) :: rest)) :=
  va_alen hexec hb hK (sx_sing (hR.at hg).1) 0 0 rfl rfl rfl hdg kk
theorem sx_riast (hexec : p.tables.exec = Jvm.exec) (hb : c.code = cc) {a : Nat} {xs : List Int32} {i x : Int32} (hK : va_K D vwCl (sx_tys cA) s) (hR : sx_Rep D (sx_ad b sa base) cA base h H) (hS : va_S (sx_A base) H0 H locs) (hg : sx_get h a = some (.inl xs)) (hin : vp_in i xs.length) (hdg : decode cc pc = .ok (.iastore, 1))
    (kk : ∀ (H1 : Heap) (locs1 : List Loc), sx_Rep D (sx_ad b sa base) cA base (sx_set h a (.inl (xs.set i.toNatClampNeg x))) H1 → va_S (sx_A base) H0 H1 locs1 → W p l e R s m args below meth c H1 locs1 cells slots Q (F0 m (pc + 1) ls rest)) : W p l e R s m args below meth c H locs cells slots Q (F0 m pc ls (.int x :: .int i :: .ref (sx_ad b sa base a) :: rest)) := by
  obtain ⟨hat, hge⟩ := hR.at hg
  have hlt : i.toNatClampNeg < xs.length := Nat.not_le.mp fun q => hin (Or.inr q)
  refine W.iast hexec hb (cell := vp_cell (cA 0) (xs.length, .inl (fun j => xs.getD j 0))) hat ((hK.2 0 _ rfl).1 xs.length (fun j => .int (xs.getD j 0))) (fun q => by cases q) (by show ¬ (i < 0 ∨ (arrV _ _ _).slots.size ≤ _); rw [arrV_size]; exact hin) rfl rfl hdg fun H1 e z oq => ?_
  refine kk H1 _ (hR.set hg ?_ z oq) (hS.put z oq hge)
  show H1[sx_ad b sa base a]? = some (vp_cell (cA 0) ((xs.set i.toNatClampNeg x).length, .inl (fun j => (xs.set i.toNatClampNeg x).getD j 0)))
  rw [e, vp_cell_i, vp_cell_i, arrV_store, List.length_set]
  congr 2
  funext q
  by_cases hq : q = i.toNatClampNeg
  · subst hq
    simp [updV, hlt]
  · simp [updV, hq, List.getElem?_set_ne (Ne.symm hq)]
theorem sx_raast (hexec : p.tables.exec = Jvm.exec) (hb : c.code = cc) {a v : Nat} {rs : List (Option Nat)} {fs : List Value} {i : Int32} (hK : va_K D vwCl (sx_tys cA) s) (hR : sx_Rep D (sx_ad b sa base) cA base h H) (hS : va_S (sx_A base) H0 H locs) (hg : sx_get h a = some (.inr (.inl (0, rs)))) (ho : sx_obj h v = some (0, fs)) (hin : vp_in i rs.length) (hdg : decode cc pc = .ok (.aastore, 1))
    (kk : ∀ (H1 : Heap) (locs1 : List Loc), sx_Rep D (sx_ad b sa base) cA base (sx_set h a (.inr (.inl (0, rs.set i.toNatClampNeg (some v))))) H1 → va_S (sx_A base) H0 H1 locs1 → W p l e R s m args below meth c H1 locs1 cells slots Q (F0 m (pc + 1) ls rest)) : W p l e R s m args below meth c H locs cells slots Q (F0 m pc ls (.ref (sx_ad b sa base v) :: .int i :: .ref (sx_ad b sa base a) :: rest)) := by
  obtain ⟨hat, hge⟩ := hR.at hg
  obtain ⟨hav, -⟩ := hR.at (sx_obj_some ho)
  have hlt : i.toNatClampNeg < rs.length := Nat.not_le.mp fun q => hin (Or.inr q)
  have h0 : ¬ i < 0 := fun q => hin (Or.inl q)
  obtain ⟨r', hr', cellV, g1, g2, g3, -⟩ := hav
  have hcls := (hK.1 0 _ (sx_vw 0 (by omega))).2
  obtain ⟨kA, comp, k1, k2, k3, -⟩ := (hK.2 1 _ rfl).2
  have hcomp : comp = D.1 0 := Option.some.inj (k3.symm.trans hcls.1)
  subst hcomp
  obtain ⟨kC, hkC, -⟩ := hcls.2
  refine W.aast hexec hb (cell := vp_cell (cA 1) (rs.length, .inr (.inr (.inr (.inr (fun j => (rs.getD j none).map (sx_ad b sa base))))))) hat (fun q h => by cases h) (fun h => by cases h) k1 k2 rfl hkC ⟨h0, by show _ < (arrV _ _ _).slots.size; rw [arrV_size]; exact hlt⟩ g1 (fun q h => by rw [g3] at h; cases h) (by rw [g2]; exact hkC) (by rw [g2]; exact va_assign hcls) rfl rfl hdg fun H1 e z oq => ?_
  refine kk H1 _ (hR.set hg ?_ z oq) (hS.put z oq hge)
  show H1[sx_ad b sa base a]? = some (vp_cell (cA 1) ((rs.set i.toNatClampNeg (some v)).length, .inr (.inr (.inr (.inr (fun j => ((rs.set i.toNatClampNeg (some v)).getD j none).map (sx_ad b sa base)))))))
  rw [e, vp_cell_q, vp_cell_q, arrV_store, List.length_set]
  congr 2
  funext q
  by_cases hq : q = i.toNatClampNeg
  · subst hq
    simp [updV, hlt, va_rf]
  · simp [updV, hq, List.getElem?_set_ne (Ne.symm hq)]
theorem sx_rnew (hexec : p.tables.exec = Jvm.exec) (hb : c.code = cc) {own : String} {index ci : Nat} (hts : ∀ w ∈ sx_W, w.before args s = true) (hc : ci < 7) (hown : s.vm.findClass own = some m.cls) (hcl : (Cond.classLink own index (sx_RN ci)).before args s = true) (hK : va_K D vwCl (sx_tys cA) s) (hR : sx_Rep D (sx_ad b sa base) cA base h H) (hS : va_S (sx_A base) H0 H locs)
    (hcells : cells + 1 ≤ R.cells) (hslots : slots + sx_N ci ≤ R.slots) (hdg : decode cc pc = .ok (.new index, 3))
    (kk : ∀ (H1 : Heap), sx_Rep D (sx_ad b sa base) cA base (sx_push h (some (.inr (.inr (ci, sx_df ci)))) (sx_N ci)) H1 → va_S (sx_A base) H0 H1 locs →
      W p l e R s m args below meth c H1 locs (cells + 1) (slots + sx_N ci) Q (F0 m (pc + 3) ls (.ref (sx_ad b sa base (sx_new h)) :: rest))) : W p l e R s m args below meth c H locs cells slots Q (F0 m pc ls rest) := by
  have hKn := hK.1 ci _ (sx_vw ci hc)
  obtain ⟨w1, w2⟩ := sx_cls ci hc
  refine W.newcK hexec hb hown hcl (hts _ (sx_inW w1 rfl)) (hts _ (sx_inW w2 rfl)) rfl hdg hcells hslots hKn.2.1 hR.1 fun H1 kC hkC e1 z1 o1 => ?_
  refine kk H1 (hR.push (fun x hx => ?_) (by rw [z1, hR.1]) (fun q hq => o1 q (by rw [← hR.1]; exact hq))) ⟨Nat.le_trans hS.1 (by rw [z1, hR.1]; omega), fun x h1 h2 => (o1 x (by have := Nat.lt_of_lt_of_le h1 hS.1; rw [hR.1] at this; exact this)).trans (hS.2.1 x h1 h2), hS.2.2⟩
  cases hx
  refine ⟨_, sx_vw ci hc, (u_born (sx_ty ci) hts (sx_hin ci hc) hKn hkC e1 (sx_hty ci hc)).to fun j hj => ?_⟩
  rw [sx_hdf ci hc j hj]
  show vp_V (sx_df ci) j = vp_V ((sx_df ci).map (sx_cv (sx_ad b sa base))) j
  have hd : (sx_df ci).map (sx_cv (sx_ad b sa base)) = sx_df ci := sx_c7 (P := fun c => (sx_df c).map (sx_cv (sx_ad b sa base)) = sx_df c) rfl rfl rfl rfl rfl rfl rfl ci hc
  rw [hd]
theorem sx_rnewa (hexec : p.tables.exec = Jvm.exec) (hb : c.code = cc) {n : Int32} (hts : ∀ w ∈ sx_W, w.before args s = true) (hK : va_K D vwCl (sx_tys cA) s) (hR : sx_Rep D (sx_ad b sa base) cA base h H) (hS : va_S (sx_A base) H0 H locs) (hn : ¬ n < 0) (hle : n.toNatClampNeg ≤ 65536)
    (hcells : cells + 1 ≤ R.cells) (hslots : slots + n.toNatClampNeg ≤ R.slots) (hdg : decode cc pc = .ok (.newarray .int, 2))
    (kk : ∀ (H1 : Heap), sx_Rep D (sx_ad b sa base) cA base (sx_push h (some (.inl (List.replicate n.toNatClampNeg 0))) n.toNatClampNeg) H1 → va_S (sx_A base) H0 H1 locs →
      W p l e R s m args below meth c H1 locs (cells + 1) (slots + n.toNatClampNeg) Q (F0 m (pc + 2) ls (.ref (sx_ad b sa base (sx_new h)) :: rest))) : W p l e R s m args below meth c H locs cells slots Q (F0 m pc ls (.int n :: rest)) := by
  refine va_newaK hexec hb (atype := .int) (hts _ (List.mem_filter.mpr ⟨sx_ai, rfl⟩)) rfl hdg rfl hn rfl (by show n.toNatClampNeg * 4 ≤ _; omega) hcells hslots hR.1 fun H1 cI e1 z1 o1 hAr hNm => ?_
  have hcI : cI = cA 0 := by
    have h1 := (hK.2 0 _ rfl).2
    have h2 : s.vm.findClass ("[" ++ (FieldType.int).toString) = some (cA 0) := h1
    exact Option.some.inj (hNm.symm.trans h2)
  subst hcI
  refine kk H1 (hR.push (fun x hx => ?_) (by rw [z1, hR.1]) (fun q hq => o1 q (by rw [← hR.1]; exact hq))) ⟨Nat.le_trans hS.1 (by rw [z1, hR.1]; omega), fun x h1 h2 => (o1 x (by have := Nat.lt_of_lt_of_le h1 hS.1; rw [hR.1] at this; exact this)).trans (hS.2.1 x h1 h2), hS.2.2⟩
  cases hx
  show H1[base + h.1.length]? = some (vp_cell (cA 0) ((List.replicate n.toNatClampNeg (0 : Int32)).length, .inl (fun j => (List.replicate n.toNatClampNeg (0 : Int32)).getD j 0)))
  rw [e1, vp_cell_i, List.length_replicate]
  congr 2
  funext j
  by_cases hj : j < n.toNatClampNeg
  · simp [List.getElem?_replicate, hj, newarray.typeOf, defaultValue]
  · simp [List.getElem?_replicate, hj, newarray.typeOf, defaultValue]
theorem sx_rnewq (hexec : p.tables.exec = Jvm.exec) (hb : c.code = cc) {own : String} {index t : Nat} {n : Int32} (ht : t < 2) (hown : s.vm.findClass own = some m.cls) (hcl : (Cond.classLink own index (sx_eo t)).before args s = true) (hover : va_AO (sx_eo t) s) (hK : va_K D vwCl (sx_tys cA) s) (hR : sx_Rep D (sx_ad b sa base) cA base h H) (hS : va_S (sx_A base) H0 H locs) (hn : ¬ n < 0) (hle : n.toNatClampNeg ≤ 65536)
    (hcells : cells + 1 ≤ R.cells) (hslots : slots + n.toNatClampNeg ≤ R.slots) (hdg : decode cc pc = .ok (.anewarray index, 3))
    (kk : ∀ (H1 : Heap), sx_Rep D (sx_ad b sa base) cA base (sx_push h (some (.inr (.inl (t, List.replicate n.toNatClampNeg none)))) n.toNatClampNeg) H1 → va_S (sx_A base) H0 H1 locs →
      W p l e R s m args below meth c H1 locs (cells + 1) (slots + n.toNatClampNeg) Q (F0 m (pc + 3) ls (.ref (sx_ad b sa base (sx_new h)) :: rest))) : W p l e R s m args below meth c H locs cells slots Q (F0 m pc ls (.int n :: rest)) := by
  refine W.anew hexec hb hown hcl (va_AO.use hover) rfl hdg rfl hn (by omega) hcells hslots fun cI kA comp f1 f2 f3 f4 => ?_
  have tt : (sx_tys cA)[t + 1]? = some (cA (t + 1), .object (sx_eo t)) := by
    match t, ht with
    | 0, _ => rfl
    | 1, _ => rfl
    | t + 2, h => omega
  have hcI : cI = cA (t + 1) := by
    obtain ⟨kA2, comp2, k1, k2, k3, k4⟩ := (hK.2 (t + 1) _ tt).2
    exact Option.some.inj (f1.symm.trans k4)
  subst hcI
  generalize hH1 : H.push ({ cls := cA (t + 1), slots := Array.replicate n.toNatClampNeg .null, vm := .none } : Cell) = H1
  have z1 : H1.size = H.size + 1 := by rw [← hH1, Array.size_push]
  have e1 : H1[H.size]? = some (arrV (cA (t + 1)) n.toNatClampNeg (fun _ => .null)) := by rw [← hH1, Array.getElem?_push_size, ← arrV_new]
  have o1 : ∀ q : Nat, q < H.size → H1[q]? = H[q]? := fun q hq => by rw [← hH1, Array.getElem?_push, if_neg (Nat.ne_of_lt hq)]
  have hsz := hR.1
  rw [show (Value.ref H.size) = .ref (sx_ad b sa base (sx_new h)) by rw [hsz]; rfl]
  refine kk H1 (hR.push (fun x hx => ?_) z1 o1) ⟨Nat.le_trans hS.1 (by rw [z1]; omega), fun x h1 h2 => (o1 x (Nat.lt_of_lt_of_le h1 hS.1)).trans (hS.2.1 x h1 h2), hS.2.2⟩
  cases hx
  show H1[base + h.1.length]? = some (vp_cell (cA (t + 1)) ((List.replicate n.toNatClampNeg (none : Option Nat)).length, .inr (.inr (.inr (.inr (fun j => ((List.replicate n.toNatClampNeg (none : Option Nat)).getD j none).map (sx_ad b sa base)))))))
  rw [← hsz, e1, vp_cell_q, List.length_replicate]
  congr 2
  funext j
  by_cases hj : j < n.toNatClampNeg
  · simp [List.getElem?_replicate, hj, va_rf]
  · simp [List.getElem?_replicate, hj, va_rf]
end SXW
