/-! an abstract heap: ints and longs of fields, references of fields, ints and longs of arrays, each by cell and place; the cells' shape stands apart and never changes -/
abbrev mv_H : Type := (Nat → Nat → Int32) × (Nat → Nat → Int64) × (Nat → Nat → Option Nat) × (Nat → Nat → Int32) × (Nat → Nat → Int64)
abbrev mv_i (σ : mv_H) : Nat → Nat → Int32 := σ.1
abbrev mv_l (σ : mv_H) : Nat → Nat → Int64 := σ.2.1
abbrev mv_r (σ : mv_H) : Nat → Nat → Option Nat := σ.2.2.1
abbrev mv_a (σ : mv_H) : Nat → Nat → Int32 := σ.2.2.2.1
abbrev mv_b (σ : mv_H) : Nat → Nat → Int64 := σ.2.2.2.2
def mv_u {β : Type} (f : Nat → Nat → β) (o k : Nat) (v : β) : Nat → Nat → β := fun o' k' => if o' = o ∧ k' = k then v else f o' k'
def mv_si (σ : mv_H) (o k : Nat) (v : Int32) : mv_H := (mv_u σ.1 o k v, σ.2)
def mv_sl (σ : mv_H) (o k : Nat) (v : Int64) : mv_H := (σ.1, mv_u σ.2.1 o k v, σ.2.2)
def mv_sr (σ : mv_H) (o k : Nat) (v : Option Nat) : mv_H := (σ.1, σ.2.1, mv_u σ.2.2.1 o k v, σ.2.2.2)
def mv_sa (σ : mv_H) (o k : Nat) (v : Int32) : mv_H := (σ.1, σ.2.1, σ.2.2.1, mv_u σ.2.2.2.1 o k v, σ.2.2.2.2)
def mv_sb (σ : mv_H) (o k : Nat) (v : Int64) : mv_H := (σ.1, σ.2.1, σ.2.2.1, σ.2.2.2.1, mv_u σ.2.2.2.2 o k v)
theorem mv_u_same {β : Type} (f : Nat → Nat → β) (o k : Nat) (v : β) : mv_u f o k v o k = v := if_pos ⟨rfl, rfl⟩
theorem mv_u_ne {β : Type} (f : Nat → Nat → β) {o k o' k' : Nat} (v : β) (h : ¬ (o' = o ∧ k' = k)) : mv_u f o k v o' k' = f o' k' := if_neg h
theorem mv_u_o {β : Type} (f : Nat → Nat → β) {o k o' : Nat} (v : β) (h : o' ≠ o) : mv_u f o k v o' = f o' := funext fun k' => if_neg fun q => h q.1
/-- a cell: an object of a class by its number, or an array of a kind and length -/
abbrev mv_Sh : Type := List (Nat ⊕ (FieldType × Nat))
/-- classes, types of their fields, array classes, their numbers in the machine, addresses, shape -/
abbrev mv_G : Type := List vw_C × (Nat → Nat → FieldType) × (FieldType → ClassId) × va_G × (Nat → Nat) × mv_Sh
abbrev mv_cl (G : mv_G) : List vw_C := G.1
abbrev mv_ft (G : mv_G) : Nat → Nat → FieldType := G.2.1
abbrev mv_dA (G : mv_G) : FieldType → ClassId := G.2.2.1
abbrev mv_D (G : mv_G) : va_G := G.2.2.2.1
abbrev mv_al (G : mv_G) : Nat → Nat := G.2.2.2.2.1
abbrev mv_sh (G : mv_G) : mv_Sh := G.2.2.2.2.2
def mv_nf (cl : List vw_C) (c : Nat) : Nat := match cl[c]? with
  | some r => r.2.2
  | none => 0
def mv_fv (al : Nat → Nat) (σ : mv_H) (ty : FieldType) (o k : Nat) : Value := match ty with
  | .long => .long (mv_l σ o k)
  | .object _ => va_rf ((mv_r σ o k).map al)
  | .array _ => va_rf ((mv_r σ o k).map al)
  | _ => .int (mv_i σ o k)
def mv_fs (G : mv_G) (σ : mv_H) (c o : Nat) : List Value := (List.range (mv_nf (mv_cl G) c)).map (fun k => mv_fv (mv_al G) σ (mv_ft G c k) o k)
def mv_ac (ty : FieldType) (n : Nat) (σ : mv_H) (o : Nat) : vp_A := match ty with
  | .long => (n, .inr (.inl (mv_b σ o)))
  | _ => (n, .inl (mv_a σ o))
def mv_ce (G : mv_G) (σ : mv_H) (o : Nat) (t : Nat ⊕ (FieldType × Nat)) : va_E := match t with
  | .inl c => .inr (c, mv_fs G σ c o)
  | .inr x => .inl (mv_dA G x.1, mv_ac x.1 x.2 σ o)
def mv_wl (G : mv_G) (σ : mv_H) : va_W := (mv_sh G).mapIdx (fun o t => (mv_al G o, mv_ce G σ o t))
def mv_tys (G : mv_G) : List (ClassId × FieldType) := [(mv_dA G .int, .int), (mv_dA G .long, .long), (mv_dA G .byte, .byte), (mv_dA G .boolean, .boolean)]
def mv_A (G : mv_G) (sz : Nat) : Nat → Prop := fun q => (∃ o : Nat, o < (mv_sh G).length ∧ q = mv_al G o) ∨ sz ≤ q
def mv_inj (G : mv_G) : Prop := ∀ i j : Nat, i < (mv_sh G).length → j < (mv_sh G).length → mv_al G i = mv_al G j → i = j
theorem mv_wl_at (G : mv_G) (σ : mv_H) (o : Nat) : (mv_wl G σ)[o]? = ((mv_sh G)[o]?).map (fun t => (mv_al G o, mv_ce G σ o t)) := by
  unfold mv_wl
  rw [List.getElem?_mapIdx]
theorem mv_wl_o {G : mv_G} (σ : mv_H) {o c : Nat} (h : (mv_sh G)[o]? = some (.inl c)) : (mv_wl G σ)[o]? = some (mv_al G o, .inr (c, mv_fs G σ c o)) := by
  rw [mv_wl_at, h]; rfl
theorem mv_wl_a {G : mv_G} (σ : mv_H) {o n : Nat} {ty : FieldType} (h : (mv_sh G)[o]? = some (.inr (ty, n))) : (mv_wl G σ)[o]? = some (mv_al G o, .inl (mv_dA G ty, mv_ac ty n σ o)) := by
  rw [mv_wl_at, h]; rfl
theorem mv_wl_len (G : mv_G) (σ : mv_H) : (mv_wl G σ).length = (mv_sh G).length := by
  unfold mv_wl
  exact List.length_mapIdx
theorem mv_wl_D {G : mv_G} (hi : mv_inj G) (σ : mv_H) (sz : Nat) : va_D (mv_A G sz) (mv_wl G σ) := by
  refine ⟨fun i j p q hp hq e => ?_, fun k q hq => ?_⟩
  · rw [mv_wl_at] at hp hq
    cases ha : (mv_sh G)[i]? with
    | none => rw [ha] at hp; cases hp
    | some a =>
      cases hb : (mv_sh G)[j]? with
      | none => rw [hb] at hq; cases hq
      | some b =>
        rw [ha] at hp; rw [hb] at hq
        have e1 : p = (mv_al G i, mv_ce G σ i a) := (Option.some.inj hp).symm
        have e2 : q = (mv_al G j, mv_ce G σ j b) := (Option.some.inj hq).symm
        subst e1; subst e2
        exact hi i j (List.getElem?_eq_some_iff.mp ha).1 (List.getElem?_eq_some_iff.mp hb).1 e
  · rw [mv_wl_at] at hq
    cases ha : (mv_sh G)[k]? with
    | none => rw [ha] at hq; cases hq
    | some a =>
      rw [ha] at hq
      have e1 : q = (mv_al G k, mv_ce G σ k a) := (Option.some.inj hq).symm
      subst e1
      exact Or.inl ⟨k, (List.getElem?_eq_some_iff.mp ha).1, rfl⟩
theorem mv_fs_at {G : mv_G} (σ : mv_H) {c o k : Nat} (hk : k < mv_nf (mv_cl G) c) : (mv_fs G σ c o)[k]? = some (mv_fv (mv_al G) σ (mv_ft G c k) o k) := by
  unfold mv_fs
  rw [List.getElem?_map, List.getElem?_range hk]; rfl
theorem mv_fs_len (G : mv_G) (σ : mv_H) (c o : Nat) : (mv_fs G σ c o).length = mv_nf (mv_cl G) c := by
  unfold mv_fs
  rw [List.length_map, List.length_range]
/-- two heaps that differ in one field of one object -/
theorem mv_wl_set {G : mv_G} {σ τ : mv_H} {o c k : Nat} {v : Value} (h : (mv_sh G)[o]? = some (.inl c)) (hk : k < mv_nf (mv_cl G) c) (hv : mv_fv (mv_al G) τ (mv_ft G c k) o k = v)
    (hs : ∀ j : Nat, j ≠ k → ∀ ty : FieldType, mv_fv (mv_al G) τ ty o j = mv_fv (mv_al G) σ ty o j) (ho : ∀ (o' : Nat) (t : Nat ⊕ (FieldType × Nat)), o' ≠ o → mv_ce G τ o' t = mv_ce G σ o' t) :
    mv_wl G τ = (mv_wl G σ).set o (mv_al G o, .inr (c, (mv_fs G σ c o).set k v)) := by
  apply List.ext_getElem?
  intro i
  rw [List.getElem?_set, mv_wl_at, mv_wl_at, mv_wl_len]
  by_cases e : o = i
  · subst e
    rw [if_pos rfl, if_pos (List.getElem?_eq_some_iff.mp h).1, h]
    show some (mv_al G o, Sum.inr (c, mv_fs G τ c o)) = _
    congr 4
    apply List.ext_getElem?
    intro j
    rw [List.getElem?_set, mv_fs_len]
    by_cases e2 : k = j
    · subst e2
      rw [if_pos rfl, if_pos hk, mv_fs_at _ hk, hv]
    · rw [if_neg e2]
      by_cases hj : j < mv_nf (mv_cl G) c
      · rw [mv_fs_at _ hj, mv_fs_at _ hj, hs j (fun q => e2 q.symm)]
      · rw [List.getElem?_eq_none (by rw [mv_fs_len]; omega), List.getElem?_eq_none (by rw [mv_fs_len]; omega)]
  · rw [if_neg e]
    cases (mv_sh G)[i]? with
    | none => rfl
    | some t => show some (mv_al G i, mv_ce G τ i t) = some (mv_al G i, mv_ce G σ i t); rw [ho i t (fun q => e q.symm)]
/-- two heaps that differ in one array -/
theorem mv_wl_arr {G : mv_G} {σ τ : mv_H} {o n : Nat} {ty : FieldType} {x : vp_A} (h : (mv_sh G)[o]? = some (.inr (ty, n))) (hv : mv_ac ty n τ o = x) (ho : ∀ (o' : Nat) (t : Nat ⊕ (FieldType × Nat)), o' ≠ o → mv_ce G τ o' t = mv_ce G σ o' t) :
    mv_wl G τ = (mv_wl G σ).set o (mv_al G o, .inl (mv_dA G ty, x)) := by
  apply List.ext_getElem?
  intro i
  rw [List.getElem?_set, mv_wl_at, mv_wl_at, mv_wl_len]
  by_cases e : o = i
  · subst e
    rw [if_pos rfl, if_pos (List.getElem?_eq_some_iff.mp h).1, h, ← hv]; rfl
  · rw [if_neg e]
    cases (mv_sh G)[i]? with
    | none => rfl
    | some t => show some (mv_al G i, mv_ce G τ i t) = some (mv_al G i, mv_ce G σ i t); rw [ho i t (fun q => e q.symm)]
theorem mv_ce_ext {G : mv_G} {σ τ : mv_H} {o : Nat} (hi : mv_i τ o = mv_i σ o) (hl : mv_l τ o = mv_l σ o) (hr : mv_r τ o = mv_r σ o) (ha : mv_a τ o = mv_a σ o) (hb : mv_b τ o = mv_b σ o) (t : Nat ⊕ (FieldType × Nat)) : mv_ce G τ o t = mv_ce G σ o t := by
  have hf : ∀ (ty : FieldType) (k : Nat), mv_fv (mv_al G) τ ty o k = mv_fv (mv_al G) σ ty o k := by
    intro ty k
    cases ty <;> simp only [mv_fv, hi, hl, hr]
  cases t with
  | inl c =>
    show Sum.inr (c, mv_fs G τ c o) = Sum.inr (c, mv_fs G σ c o)
    have : mv_fs G τ c o = mv_fs G σ c o := by
      unfold mv_fs
      exact List.map_congr_left fun k _ => hf _ k
    rw [this]
  | inr x =>
    obtain ⟨ty, n⟩ := x
    show Sum.inl (mv_dA G ty, mv_ac ty n τ o) = Sum.inl (mv_dA G ty, mv_ac ty n σ o)
    have : mv_ac ty n τ o = mv_ac ty n σ o := by
      cases ty <;> simp only [mv_ac, ha, hb]
    rw [this]
def mv_isI (ty : FieldType) : Bool := match ty with
  | .int => true
  | .byte => true
  | .boolean => true
  | .short => true
  | .char => true
  | _ => false
def mv_isR (ty : FieldType) : Bool := match ty with
  | .object _ => true
  | .array _ => true
  | _ => false
theorem mv_fvI {al : Nat → Nat} {σ : mv_H} {ty : FieldType} {o k : Nat} (h : mv_isI ty = true) : mv_fv al σ ty o k = .int (mv_i σ o k) := by
  cases ty <;> first | rfl | cases h
theorem mv_fvR {al : Nat → Nat} {σ : mv_H} {ty : FieldType} {o k : Nat} (h : mv_isR ty = true) : mv_fv al σ ty o k = va_rf ((mv_r σ o k).map al) := by
  cases ty <;> first | rfl | cases h
theorem mv_wl_si {G : mv_G} {σ : mv_H} {o c k : Nat} {v : Int32} (h : (mv_sh G)[o]? = some (.inl c)) (hk : k < mv_nf (mv_cl G) c) (hty : mv_isI (mv_ft G c k) = true) :
    mv_wl G (mv_si σ o k v) = (mv_wl G σ).set o (mv_al G o, .inr (c, (mv_fs G σ c o).set k (.int v))) :=
  mv_wl_set h hk (by rw [mv_fvI hty]; exact congrArg Value.int (mv_u_same _ _ _ _))
    (fun j hj ty => by cases ty <;> first | rfl | exact congrArg Value.int (mv_u_ne _ _ (fun q => hj q.2)))
    (fun o' t ho => mv_ce_ext (σ := σ) (τ := mv_si σ o k v) (mv_u_o _ _ ho) rfl rfl rfl rfl t)
theorem mv_wl_sl {G : mv_G} {σ : mv_H} {o c k : Nat} {v : Int64} (h : (mv_sh G)[o]? = some (.inl c)) (hk : k < mv_nf (mv_cl G) c) (hty : mv_ft G c k = .long) :
    mv_wl G (mv_sl σ o k v) = (mv_wl G σ).set o (mv_al G o, .inr (c, (mv_fs G σ c o).set k (.long v))) :=
  mv_wl_set h hk (by rw [hty]; exact congrArg Value.long (mv_u_same _ _ _ _))
    (fun j hj ty => by cases ty <;> first | rfl | exact congrArg Value.long (mv_u_ne _ _ (fun q => hj q.2)))
    (fun o' t ho => mv_ce_ext (σ := σ) (τ := mv_sl σ o k v) rfl (mv_u_o _ _ ho) rfl rfl rfl t)
theorem mv_wl_sr {G : mv_G} {σ : mv_H} {o c k : Nat} {v : Option Nat} (h : (mv_sh G)[o]? = some (.inl c)) (hk : k < mv_nf (mv_cl G) c) (hty : mv_isR (mv_ft G c k) = true) :
    mv_wl G (mv_sr σ o k v) = (mv_wl G σ).set o (mv_al G o, .inr (c, (mv_fs G σ c o).set k (va_rf (v.map (mv_al G))))) :=
  mv_wl_set h hk (by rw [mv_fvR hty]; exact congrArg (fun z : Option Nat => va_rf (z.map (mv_al G))) (mv_u_same _ _ _ _))
    (fun j hj ty => by cases ty <;> first | rfl | exact congrArg (fun z : Option Nat => va_rf (z.map (mv_al G))) (mv_u_ne _ _ (fun q => hj q.2)))
    (fun o' t ho => mv_ce_ext (σ := σ) (τ := mv_sr σ o k v) rfl rfl (mv_u_o _ _ ho) rfl rfl t)
theorem mv_wl_sa {G : mv_G} {σ : mv_H} {o n k : Nat} {ty : FieldType} {v : Int32} (h : (mv_sh G)[o]? = some (.inr (ty, n))) (hty : mv_isI ty = true) :
    mv_wl G (mv_sa σ o k v) = (mv_wl G σ).set o (mv_al G o, .inl (mv_dA G ty, n, .inl (upd (mv_a σ o) k v))) :=
  mv_wl_arr h (by
    have e : mv_a (mv_sa σ o k v) o = upd (mv_a σ o) k v := by
      funext j
      show mv_u _ _ _ _ _ _ = _
      by_cases hj : j = k
      · subst hj; rw [mv_u_same, pk_us]
      · rw [mv_u_ne _ _ (fun q => hj q.2), pk_un hj]
    cases ty <;> first | (show (n, Sum.inl (mv_a (mv_sa σ o k v) o)) = _; rw [e]) | cases hty)
    (fun o' t ho => mv_ce_ext (σ := σ) (τ := mv_sa σ o k v) rfl rfl rfl (mv_u_o _ _ ho) rfl t)
theorem mv_wl_sb {G : mv_G} {σ : mv_H} {o n k : Nat} {v : Int64} (h : (mv_sh G)[o]? = some (.inr (.long, n))) :
    mv_wl G (mv_sb σ o k v) = (mv_wl G σ).set o (mv_al G o, .inl (mv_dA G .long, n, .inr (.inl (vp_updL (mv_b σ o) k v)))) :=
  mv_wl_arr h (by
    have e : mv_b (mv_sb σ o k v) o = vp_updL (mv_b σ o) k v := by
      funext j
      show mv_u _ _ _ _ _ _ = _
      by_cases hj : j = k
      · subst hj; rw [mv_u_same, pk_uLs]
      · rw [mv_u_ne _ _ (fun q => hj q.2), pk_uLn hj]
    show (n, Sum.inr (Sum.inl (mv_b (mv_sb σ o k v) o))) = _
    rw [e])
    (fun o' t ho => mv_ce_ext (σ := σ) (τ := mv_sb σ o k v) rfl rfl rfl rfl (mv_u_o _ _ ho) t)
/-- what a method's body stands on -/
def mv_B (p : Program) (s : State) (m : MethodId) (args : Array Value) (meth : Method) (c : Code) (G : mv_G) (ws : List Cond) (own : String) (cc : ByteArray) (nL : Nat) : Prop :=
  (p.tables.exec = Jvm.exec ∧ c.code = cc) ∧ c.maxLocals = nL ∧ s.vm.findClass own = some m.cls ∧ (∀ w ∈ ws, w.before args s = true) ∧ va_K (mv_D G) (mv_cl G) (mv_tys G) s ∧ mv_inj G ∧ meth.locks = false
/-- the machine at pc, its heap the abstract one's -/
def mv_V (p : Program) (l : Launch) (e : Env) (R : Room) (s : State) (m : MethodId) (args : Array Value) (below : List Frame) (meth : Method) (c : Code) (G : mv_G) (nL : Nat) (cells slots : Nat) (Q : State → Prop) (σ : mv_H) (pc : Nat) (L : List (Nat × Value)) (st : List Value) : Prop :=
  ∀ (H : Heap) (locs : List Loc) (ls : Array Slot), va_P (mv_D G) (mv_cl G) (mv_wl G σ) H → va_S (mv_A G s.heap.size) s.heap H locs → lv_has ls nL L → W p l e R s m args below meth c H locs cells slots Q (F0 m pc ls st)
section MVR
variable {p : Program} {l : Launch} {e : Env} {R : Room} {s : State} {m : MethodId} {args : Array Value} {below : List Frame} {meth : Method} {c : Code} {G : mv_G} {ws : List Cond} {own : String} {cc : ByteArray} {nL : Nat} {cells slots : Nat} {Q : State → Prop} {σ : mv_H} {pc : Nat} {L : List (Nat × Value)} {st : List Value}
theorem mv_iconst (B : mv_B p s m args meth c G ws own cc nL) {n : Int} {v : Int32} (hdg : decode cc pc = .ok (.iconst n, 1)) (hv : Int32.ofInt n = v)
    (k : mv_V p l e R s m args below meth c G nL cells slots Q σ (pc + 1) L (.int v :: st)) : mv_V p l e R s m args below meth c G nL cells slots Q σ pc L (st) := fun H locs ls h1 h2 h3 => lv_iconst B.1.1 B.1.2 hdg hv (k H locs ls h1 h2 h3)
theorem mv_bipush (B : mv_B p s m args meth c G ws own cc nL) {n : Int} {v : Int32} (hdg : decode cc pc = .ok (.bipush n, 2)) (hv : (Int8.ofInt n).toInt32 = v)
    (k : mv_V p l e R s m args below meth c G nL cells slots Q σ (pc + 2) L (.int v :: st)) : mv_V p l e R s m args below meth c G nL cells slots Q σ pc L (st) := fun H locs ls h1 h2 h3 => lv_bipush B.1.1 B.1.2 hdg hv (k H locs ls h1 h2 h3)
theorem mv_sipush (B : mv_B p s m args meth c G ws own cc nL) {n : Int} {v : Int32} (hdg : decode cc pc = .ok (.sipush n, 3)) (hv : (Int16.ofInt n).toInt32 = v)
    (k : mv_V p l e R s m args below meth c G nL cells slots Q σ (pc + 3) L (.int v :: st)) : mv_V p l e R s m args below meth c G nL cells slots Q σ pc L (st) := fun H locs ls h1 h2 h3 => lv_sipush B.1.1 B.1.2 hdg hv (k H locs ls h1 h2 h3)
theorem mv_lconst (B : mv_B p s m args meth c G ws own cc nL) {n : Fin 2} {v : Int64} (hdg : decode cc pc = .ok (.lconst n, 1)) (hv : Int64.ofNat (n : Nat) = v)
    (k : mv_V p l e R s m args below meth c G nL cells slots Q σ (pc + 1) L (.long v :: st)) : mv_V p l e R s m args below meth c G nL cells slots Q σ pc L (st) := fun H locs ls h1 h2 h3 => lv_lconst B.1.1 B.1.2 hdg hv (k H locs ls h1 h2 h3)
theorem mv_iadd (B : mv_B p s m args meth c G ws own cc nL) {x y : Int32} (hdg : decode cc pc = .ok (.iadd, 1))
    (k : mv_V p l e R s m args below meth c G nL cells slots Q σ (pc + 1) L (.int (x + y) :: st)) : mv_V p l e R s m args below meth c G nL cells slots Q σ pc L (.int y :: .int x :: st) := fun H locs ls h1 h2 h3 => lv_iadd B.1.1 B.1.2 hdg (k H locs ls h1 h2 h3)
theorem mv_isub (B : mv_B p s m args meth c G ws own cc nL) {x y : Int32} (hdg : decode cc pc = .ok (.isub, 1))
    (k : mv_V p l e R s m args below meth c G nL cells slots Q σ (pc + 1) L (.int (x - y) :: st)) : mv_V p l e R s m args below meth c G nL cells slots Q σ pc L (.int y :: .int x :: st) := fun H locs ls h1 h2 h3 => lv_isub B.1.1 B.1.2 hdg (k H locs ls h1 h2 h3)
theorem mv_imul (B : mv_B p s m args meth c G ws own cc nL) {x y : Int32} (hdg : decode cc pc = .ok (.imul, 1))
    (k : mv_V p l e R s m args below meth c G nL cells slots Q σ (pc + 1) L (.int (x * y) :: st)) : mv_V p l e R s m args below meth c G nL cells slots Q σ pc L (.int y :: .int x :: st) := fun H locs ls h1 h2 h3 => lv_imul B.1.1 B.1.2 hdg (k H locs ls h1 h2 h3)
theorem mv_iand (B : mv_B p s m args meth c G ws own cc nL) {x y : Int32} (hdg : decode cc pc = .ok (.iand, 1))
    (k : mv_V p l e R s m args below meth c G nL cells slots Q σ (pc + 1) L (.int (x &&& y) :: st)) : mv_V p l e R s m args below meth c G nL cells slots Q σ pc L (.int y :: .int x :: st) := fun H locs ls h1 h2 h3 => lv_iand B.1.1 B.1.2 hdg (k H locs ls h1 h2 h3)
theorem mv_ior (B : mv_B p s m args meth c G ws own cc nL) {x y : Int32} (hdg : decode cc pc = .ok (.ior, 1))
    (k : mv_V p l e R s m args below meth c G nL cells slots Q σ (pc + 1) L (.int (x ||| y) :: st)) : mv_V p l e R s m args below meth c G nL cells slots Q σ pc L (.int y :: .int x :: st) := fun H locs ls h1 h2 h3 => lv_ior B.1.1 B.1.2 hdg (k H locs ls h1 h2 h3)
theorem mv_ixor (B : mv_B p s m args meth c G ws own cc nL) {x y : Int32} (hdg : decode cc pc = .ok (.ixor, 1))
    (k : mv_V p l e R s m args below meth c G nL cells slots Q σ (pc + 1) L (.int (x ^^^ y) :: st)) : mv_V p l e R s m args below meth c G nL cells slots Q σ pc L (.int y :: .int x :: st) := fun H locs ls h1 h2 h3 => lv_ixor B.1.1 B.1.2 hdg (k H locs ls h1 h2 h3)
theorem mv_ishl (B : mv_B p s m args meth c G ws own cc nL) {x y : Int32} (hdg : decode cc pc = .ok (.ishl, 1))
    (k : mv_V p l e R s m args below meth c G nL cells slots Q σ (pc + 1) L (.int (x <<< (y &&& 31)) :: st)) : mv_V p l e R s m args below meth c G nL cells slots Q σ pc L (.int y :: .int x :: st) := fun H locs ls h1 h2 h3 => lv_ishl B.1.1 B.1.2 hdg (k H locs ls h1 h2 h3)
theorem mv_ishr (B : mv_B p s m args meth c G ws own cc nL) {x y : Int32} (hdg : decode cc pc = .ok (.ishr, 1))
    (k : mv_V p l e R s m args below meth c G nL cells slots Q σ (pc + 1) L (.int (x >>> (y &&& 31)) :: st)) : mv_V p l e R s m args below meth c G nL cells slots Q σ pc L (.int y :: .int x :: st) := fun H locs ls h1 h2 h3 => lv_ishr B.1.1 B.1.2 hdg (k H locs ls h1 h2 h3)
theorem mv_ladd (B : mv_B p s m args meth c G ws own cc nL) {x y : Int64} (hdg : decode cc pc = .ok (.ladd, 1))
    (k : mv_V p l e R s m args below meth c G nL cells slots Q σ (pc + 1) L (.long (x + y) :: st)) : mv_V p l e R s m args below meth c G nL cells slots Q σ pc L (.long y :: .long x :: st) := fun H locs ls h1 h2 h3 => lv_ladd B.1.1 B.1.2 hdg (k H locs ls h1 h2 h3)
theorem mv_lsub (B : mv_B p s m args meth c G ws own cc nL) {x y : Int64} (hdg : decode cc pc = .ok (.lsub, 1))
    (k : mv_V p l e R s m args below meth c G nL cells slots Q σ (pc + 1) L (.long (x - y) :: st)) : mv_V p l e R s m args below meth c G nL cells slots Q σ pc L (.long y :: .long x :: st) := fun H locs ls h1 h2 h3 => lv_lsub B.1.1 B.1.2 hdg (k H locs ls h1 h2 h3)
theorem mv_lmul (B : mv_B p s m args meth c G ws own cc nL) {x y : Int64} (hdg : decode cc pc = .ok (.lmul, 1))
    (k : mv_V p l e R s m args below meth c G nL cells slots Q σ (pc + 1) L (.long (x * y) :: st)) : mv_V p l e R s m args below meth c G nL cells slots Q σ pc L (.long y :: .long x :: st) := fun H locs ls h1 h2 h3 => lv_lmul B.1.1 B.1.2 hdg (k H locs ls h1 h2 h3)
theorem mv_land (B : mv_B p s m args meth c G ws own cc nL) {x y : Int64} (hdg : decode cc pc = .ok (.land, 1))
    (k : mv_V p l e R s m args below meth c G nL cells slots Q σ (pc + 1) L (.long (x &&& y) :: st)) : mv_V p l e R s m args below meth c G nL cells slots Q σ pc L (.long y :: .long x :: st) := fun H locs ls h1 h2 h3 => lv_land B.1.1 B.1.2 hdg (k H locs ls h1 h2 h3)
theorem mv_lor (B : mv_B p s m args meth c G ws own cc nL) {x y : Int64} (hdg : decode cc pc = .ok (.lor, 1))
    (k : mv_V p l e R s m args below meth c G nL cells slots Q σ (pc + 1) L (.long (x ||| y) :: st)) : mv_V p l e R s m args below meth c G nL cells slots Q σ pc L (.long y :: .long x :: st) := fun H locs ls h1 h2 h3 => lv_lor B.1.1 B.1.2 hdg (k H locs ls h1 h2 h3)
theorem mv_lxor (B : mv_B p s m args meth c G ws own cc nL) {x y : Int64} (hdg : decode cc pc = .ok (.lxor, 1))
    (k : mv_V p l e R s m args below meth c G nL cells slots Q σ (pc + 1) L (.long (x ^^^ y) :: st)) : mv_V p l e R s m args below meth c G nL cells slots Q σ pc L (.long y :: .long x :: st) := fun H locs ls h1 h2 h3 => lv_lxor B.1.1 B.1.2 hdg (k H locs ls h1 h2 h3)
theorem mv_idiv (B : mv_B p s m args meth c G ws own cc nL) {x y : Int32} (hdg : decode cc pc = .ok (.idiv, 1)) (hne : ¬ y = 0)
    (k : mv_V p l e R s m args below meth c G nL cells slots Q σ (pc + 1) L (.int (x / y) :: st)) : mv_V p l e R s m args below meth c G nL cells slots Q σ pc L (.int y :: .int x :: st) := fun H locs ls h1 h2 h3 => lv_idiv B.1.1 B.1.2 hdg hne (k H locs ls h1 h2 h3)
theorem mv_irem (B : mv_B p s m args meth c G ws own cc nL) {x y : Int32} (hdg : decode cc pc = .ok (.irem, 1)) (hne : ¬ y = 0)
    (k : mv_V p l e R s m args below meth c G nL cells slots Q σ (pc + 1) L (.int (x - x / y * y) :: st)) : mv_V p l e R s m args below meth c G nL cells slots Q σ pc L (.int y :: .int x :: st) := fun H locs ls h1 h2 h3 => lv_irem B.1.1 B.1.2 hdg hne (k H locs ls h1 h2 h3)
theorem mv_ldiv (B : mv_B p s m args meth c G ws own cc nL) {x y : Int64} (hdg : decode cc pc = .ok (.ldiv, 1)) (hne : ¬ y = 0)
    (k : mv_V p l e R s m args below meth c G nL cells slots Q σ (pc + 1) L (.long (x / y) :: st)) : mv_V p l e R s m args below meth c G nL cells slots Q σ pc L (.long y :: .long x :: st) := fun H locs ls h1 h2 h3 => lv_ldiv B.1.1 B.1.2 hdg hne (k H locs ls h1 h2 h3)
theorem mv_lrem (B : mv_B p s m args meth c G ws own cc nL) {x y : Int64} (hdg : decode cc pc = .ok (.lrem, 1)) (hne : ¬ y = 0)
    (k : mv_V p l e R s m args below meth c G nL cells slots Q σ (pc + 1) L (.long (x - x / y * y) :: st)) : mv_V p l e R s m args below meth c G nL cells slots Q σ pc L (.long y :: .long x :: st) := fun H locs ls h1 h2 h3 => lv_lrem B.1.1 B.1.2 hdg hne (k H locs ls h1 h2 h3)
theorem mv_ineg (B : mv_B p s m args meth c G ws own cc nL) {x : Int32} (hdg : decode cc pc = .ok (.ineg, 1))
    (k : mv_V p l e R s m args below meth c G nL cells slots Q σ (pc + 1) L (.int (-x) :: st)) : mv_V p l e R s m args below meth c G nL cells slots Q σ pc L (.int x :: st) := fun H locs ls h1 h2 h3 => lv_ineg B.1.1 B.1.2 hdg (k H locs ls h1 h2 h3)
theorem mv_lneg (B : mv_B p s m args meth c G ws own cc nL) {x : Int64} (hdg : decode cc pc = .ok (.lneg, 1))
    (k : mv_V p l e R s m args below meth c G nL cells slots Q σ (pc + 1) L (.long (-x) :: st)) : mv_V p l e R s m args below meth c G nL cells slots Q σ pc L (.long x :: st) := fun H locs ls h1 h2 h3 => lv_lneg B.1.1 B.1.2 hdg (k H locs ls h1 h2 h3)
theorem mv_iushr (B : mv_B p s m args meth c G ws own cc nL) {x y : Int32} (hdg : decode cc pc = .ok (.iushr, 1))
    (k : mv_V p l e R s m args below meth c G nL cells slots Q σ (pc + 1) L (.int (x.toUInt32 >>> (y.toUInt32 &&& Int32.toUInt32 31)).toInt32 :: st)) : mv_V p l e R s m args below meth c G nL cells slots Q σ pc L (.int y :: .int x :: st) := fun H locs ls h1 h2 h3 => lv_iushr B.1.1 B.1.2 hdg rfl (k H locs ls h1 h2 h3)
theorem mv_lushr (B : mv_B p s m args meth c G ws own cc nL) {x : Int64} {y : Int32} (hdg : decode cc pc = .ok (.lushr, 1))
    (k : mv_V p l e R s m args below meth c G nL cells slots Q σ (pc + 1) L (.long (x.toUInt64 >>> (y.toInt64.toUInt64 &&& Int64.toUInt64 63)).toInt64 :: st)) : mv_V p l e R s m args below meth c G nL cells slots Q σ pc L (.int y :: .long x :: st) := fun H locs ls h1 h2 h3 => lv_lushr B.1.1 B.1.2 hdg rfl (k H locs ls h1 h2 h3)
theorem mv_lshl (B : mv_B p s m args meth c G ws own cc nL) {x : Int64} {y : Int32} (hdg : decode cc pc = .ok (.lshl, 1))
    (k : mv_V p l e R s m args below meth c G nL cells slots Q σ (pc + 1) L (.long (x <<< (y.toInt64 &&& 63)) :: st)) : mv_V p l e R s m args below meth c G nL cells slots Q σ pc L (.int y :: .long x :: st) := fun H locs ls h1 h2 h3 => lv_lshl B.1.1 B.1.2 hdg rfl (k H locs ls h1 h2 h3)
theorem mv_lshr (B : mv_B p s m args meth c G ws own cc nL) {x : Int64} {y : Int32} (hdg : decode cc pc = .ok (.lshr, 1))
    (k : mv_V p l e R s m args below meth c G nL cells slots Q σ (pc + 1) L (.long (x >>> (y.toInt64 &&& 63)) :: st)) : mv_V p l e R s m args below meth c G nL cells slots Q σ pc L (.int y :: .long x :: st) := fun H locs ls h1 h2 h3 => lv_lshr B.1.1 B.1.2 hdg rfl (k H locs ls h1 h2 h3)
theorem mv_i2l (B : mv_B p s m args meth c G ws own cc nL) {x : Int32} (hdg : decode cc pc = .ok (.i2l, 1))
    (k : mv_V p l e R s m args below meth c G nL cells slots Q σ (pc + 1) L (.long x.toInt64 :: st)) : mv_V p l e R s m args below meth c G nL cells slots Q σ pc L (.int x :: st) := fun H locs ls h1 h2 h3 => lv_i2l B.1.1 B.1.2 hdg rfl (k H locs ls h1 h2 h3)
theorem mv_l2i (B : mv_B p s m args meth c G ws own cc nL) {x : Int64} (hdg : decode cc pc = .ok (.l2i, 1))
    (k : mv_V p l e R s m args below meth c G nL cells slots Q σ (pc + 1) L (.int x.toInt32 :: st)) : mv_V p l e R s m args below meth c G nL cells slots Q σ pc L (.long x :: st) := fun H locs ls h1 h2 h3 => lv_l2i B.1.1 B.1.2 hdg rfl (k H locs ls h1 h2 h3)
theorem mv_i2b (B : mv_B p s m args meth c G ws own cc nL) {x : Int32} (hdg : decode cc pc = .ok (.i2b, 1))
    (k : mv_V p l e R s m args below meth c G nL cells slots Q σ (pc + 1) L (.int x.toInt8.toInt32 :: st)) : mv_V p l e R s m args below meth c G nL cells slots Q σ pc L (.int x :: st) := fun H locs ls h1 h2 h3 => lv_i2b B.1.1 B.1.2 hdg rfl (k H locs ls h1 h2 h3)
theorem mv_i2s (B : mv_B p s m args meth c G ws own cc nL) {x : Int32} (hdg : decode cc pc = .ok (.i2s, 1))
    (k : mv_V p l e R s m args below meth c G nL cells slots Q σ (pc + 1) L (.int x.toInt16.toInt32 :: st)) : mv_V p l e R s m args below meth c G nL cells slots Q σ pc L (.int x :: st) := fun H locs ls h1 h2 h3 => lv_i2s B.1.1 B.1.2 hdg rfl (k H locs ls h1 h2 h3)
theorem mv_i2c (B : mv_B p s m args meth c G ws own cc nL) {x : Int32} (hdg : decode cc pc = .ok (.i2c, 1))
    (k : mv_V p l e R s m args below meth c G nL cells slots Q σ (pc + 1) L (.int (x.toUInt32 % 65536).toInt32 :: st)) : mv_V p l e R s m args below meth c G nL cells slots Q σ pc L (.int x :: st) := fun H locs ls h1 h2 h3 => lv_i2c B.1.1 B.1.2 hdg rfl (k H locs ls h1 h2 h3)
theorem mv_lcmp (B : mv_B p s m args meth c G ws own cc nL) {x y : Int64} (hdg : decode cc pc = .ok (.lcmp, 1))
    (k : mv_V p l e R s m args below meth c G nL cells slots Q σ (pc + 1) L (.int (lg_cmp x y) :: st)) : mv_V p l e R s m args below meth c G nL cells slots Q σ pc L (.long y :: .long x :: st) := fun H locs ls h1 h2 h3 => W.lcmp B.1.1 B.1.2 hdg (k H locs ls h1 h2 h3)
theorem mv_dup (B : mv_B p s m args meth c G ws own cc nL) {va : Value} (hdg : decode cc pc = .ok (.dup, 1)) (hva : va.category = 1)
    (k : mv_V p l e R s m args below meth c G nL cells slots Q σ (pc + 1) L (va :: va :: st)) : mv_V p l e R s m args below meth c G nL cells slots Q σ pc L (va :: st) := fun H locs ls h1 h2 h3 => lv_dup B.1.1 B.1.2 hdg hva (k H locs ls h1 h2 h3)
theorem mv_pop (B : mv_B p s m args meth c G ws own cc nL) {va : Value} (hdg : decode cc pc = .ok (.pop, 1)) (hva : va.category = 1)
    (k : mv_V p l e R s m args below meth c G nL cells slots Q σ (pc + 1) L (st)) : mv_V p l e R s m args below meth c G nL cells slots Q σ pc L (va :: st) := fun H locs ls h1 h2 h3 => lv_pop B.1.1 B.1.2 hdg hva (k H locs ls h1 h2 h3)
theorem mv_dup_x1 (B : mv_B p s m args meth c G ws own cc nL) {va vb : Value} (hdg : decode cc pc = .ok (.dup_x1, 1)) (hva : va.category = 1) (hvb : vb.category = 1)
    (k : mv_V p l e R s m args below meth c G nL cells slots Q σ (pc + 1) L (va :: vb :: va :: st)) : mv_V p l e R s m args below meth c G nL cells slots Q σ pc L (va :: vb :: st) := fun H locs ls h1 h2 h3 => lv_dup_x1 B.1.1 B.1.2 hdg hva hvb (k H locs ls h1 h2 h3)
theorem mv_dup_x2 (B : mv_B p s m args meth c G ws own cc nL) {va vb vd : Value} (hdg : decode cc pc = .ok (.dup_x2, 1)) (hva : va.category = 1) (hvb : vb.category = 1) (hvd : vd.category = 1)
    (k : mv_V p l e R s m args below meth c G nL cells slots Q σ (pc + 1) L (va :: vb :: vd :: va :: st)) : mv_V p l e R s m args below meth c G nL cells slots Q σ pc L (va :: vb :: vd :: st) := fun H locs ls h1 h2 h3 => lv_dup_x2 B.1.1 B.1.2 hdg hva hvb hvd (k H locs ls h1 h2 h3)
theorem mv_dup2_11 (B : mv_B p s m args meth c G ws own cc nL) {va vb : Value} (hdg : decode cc pc = .ok (.dup2, 1)) (hva : va.category = 1) (hvb : vb.category = 1)
    (k : mv_V p l e R s m args below meth c G nL cells slots Q σ (pc + 1) L (va :: vb :: va :: vb :: st)) : mv_V p l e R s m args below meth c G nL cells slots Q σ pc L (va :: vb :: st) := fun H locs ls h1 h2 h3 => lv_dup2_11 B.1.1 B.1.2 hdg hva hvb (k H locs ls h1 h2 h3)
theorem mv_dup2_2 (B : mv_B p s m args meth c G ws own cc nL) {va : Value} (hdg : decode cc pc = .ok (.dup2, 1)) (hva : va.category = 2)
    (k : mv_V p l e R s m args below meth c G nL cells slots Q σ (pc + 1) L (va :: va :: st)) : mv_V p l e R s m args below meth c G nL cells slots Q σ pc L (va :: st) := fun H locs ls h1 h2 h3 => lv_dup2_2 B.1.1 B.1.2 hdg hva (k H locs ls h1 h2 h3)
theorem mv_pop2_2 (B : mv_B p s m args meth c G ws own cc nL) {va : Value} (hdg : decode cc pc = .ok (.pop2, 1)) (hva : va.category = 2)
    (k : mv_V p l e R s m args below meth c G nL cells slots Q σ (pc + 1) L (st)) : mv_V p l e R s m args below meth c G nL cells slots Q σ pc L (va :: st) := fun H locs ls h1 h2 h3 => lv_pop2_2 B.1.1 B.1.2 hdg hva (k H locs ls h1 h2 h3)
theorem mv_pop2_11 (B : mv_B p s m args meth c G ws own cc nL) {va vb : Value} (hdg : decode cc pc = .ok (.pop2, 1)) (hva : va.category = 1) (hvb : vb.category = 1)
    (k : mv_V p l e R s m args below meth c G nL cells slots Q σ (pc + 1) L (st)) : mv_V p l e R s m args below meth c G nL cells slots Q σ pc L (va :: vb :: st) := fun H locs ls h1 h2 h3 => lv_pop2_11 B.1.1 B.1.2 hdg hva hvb (k H locs ls h1 h2 h3)
theorem mv_dup2_x1_2 (B : mv_B p s m args meth c G ws own cc nL) {va vb : Value} (hdg : decode cc pc = .ok (.dup2_x1, 1)) (hva : va.category = 2) (hvb : vb.category = 1)
    (k : mv_V p l e R s m args below meth c G nL cells slots Q σ (pc + 1) L (va :: vb :: va :: st)) : mv_V p l e R s m args below meth c G nL cells slots Q σ pc L (va :: vb :: st) := fun H locs ls h1 h2 h3 => lv_dup2_x1_2 B.1.1 B.1.2 hdg hva hvb (k H locs ls h1 h2 h3)
theorem mv_dup2_x2_2 (B : mv_B p s m args meth c G ws own cc nL) {va vb vd : Value} (hdg : decode cc pc = .ok (.dup2_x2, 1)) (hva : va.category = 2) (hvb : vb.category = 1) (hvd : vd.category = 1)
    (k : mv_V p l e R s m args below meth c G nL cells slots Q σ (pc + 1) L (va :: vb :: vd :: va :: st)) : mv_V p l e R s m args below meth c G nL cells slots Q σ pc L (va :: vb :: vd :: st) := fun H locs ls h1 h2 h3 => lv_dup2_x2_2 B.1.1 B.1.2 hdg hva hvb hvd (k H locs ls h1 h2 h3)
theorem mv_iload_n (B : mv_B p s m args meth c G ws own cc nL) {kk : Fin 4} {i : Nat} {x : Int32} (hdg : decode cc pc = .ok (.iload_n kk, 1)) (hi : (kk : Nat) = i) (j : Nat) (hl : L[j]? = some (i, .int x))
    (k : mv_V p l e R s m args below meth c G nL cells slots Q σ (pc + 1) L (.int x :: st)) : mv_V p l e R s m args below meth c G nL cells slots Q σ pc L st := fun H locs ls h1 h2 h3 => lv_iload_n B.1.1 B.1.2 hdg hi (lv_at h3 j hl) (k H locs ls h1 h2 h3)
theorem mv_iload (B : mv_B p s m args meth c G ws own cc nL) {i : Nat} {x : Int32} (hdg : decode cc pc = .ok (.iload i, 2)) (j : Nat) (hl : L[j]? = some (i, .int x))
    (k : mv_V p l e R s m args below meth c G nL cells slots Q σ (pc + 2) L (.int x :: st)) : mv_V p l e R s m args below meth c G nL cells slots Q σ pc L st := fun H locs ls h1 h2 h3 => lv_iload B.1.1 B.1.2 hdg (lv_at h3 j hl) (k H locs ls h1 h2 h3)
theorem mv_lload_n (B : mv_B p s m args meth c G ws own cc nL) {kk : Fin 4} {i : Nat} {x : Int64} (hdg : decode cc pc = .ok (.lload_n kk, 1)) (hi : (kk : Nat) = i) (j : Nat) (hl : L[j]? = some (i, .long x))
    (k : mv_V p l e R s m args below meth c G nL cells slots Q σ (pc + 1) L (.long x :: st)) : mv_V p l e R s m args below meth c G nL cells slots Q σ pc L st := fun H locs ls h1 h2 h3 => lv_lload_n B.1.1 B.1.2 hdg hi (lv_at h3 j hl) (k H locs ls h1 h2 h3)
theorem mv_lload (B : mv_B p s m args meth c G ws own cc nL) {i : Nat} {x : Int64} (hdg : decode cc pc = .ok (.lload i, 2)) (j : Nat) (hl : L[j]? = some (i, .long x))
    (k : mv_V p l e R s m args below meth c G nL cells slots Q σ (pc + 2) L (.long x :: st)) : mv_V p l e R s m args below meth c G nL cells slots Q σ pc L st := fun H locs ls h1 h2 h3 => lv_lload B.1.1 B.1.2 hdg (lv_at h3 j hl) (k H locs ls h1 h2 h3)
theorem mv_aload_n (B : mv_B p s m args meth c G ws own cc nL) {kk : Fin 4} {i : Nat} {x : Nat} (hdg : decode cc pc = .ok (.aload_n kk, 1)) (hi : (kk : Nat) = i) (j : Nat) (hl : L[j]? = some (i, .ref x))
    (k : mv_V p l e R s m args below meth c G nL cells slots Q σ (pc + 1) L (.ref x :: st)) : mv_V p l e R s m args below meth c G nL cells slots Q σ pc L st := fun H locs ls h1 h2 h3 => lv_aload_n B.1.1 B.1.2 hdg hi (lv_at h3 j hl) (k H locs ls h1 h2 h3)
theorem mv_aload (B : mv_B p s m args meth c G ws own cc nL) {i : Nat} {x : Nat} (hdg : decode cc pc = .ok (.aload i, 2)) (j : Nat) (hl : L[j]? = some (i, .ref x))
    (k : mv_V p l e R s m args below meth c G nL cells slots Q σ (pc + 2) L (.ref x :: st)) : mv_V p l e R s m args below meth c G nL cells slots Q σ pc L st := fun H locs ls h1 h2 h3 => lv_aload B.1.1 B.1.2 hdg (lv_at h3 j hl) (k H locs ls h1 h2 h3)
theorem mv_istore_n (B : mv_B p s m args meth c G ws own cc nL) {kk : Fin 4} {i : Nat} {x : Int32} {L' : List (Nat × Value)} (hdg : decode cc pc = .ok (.istore_n kk, 1)) (hi : (kk : Nat) = i) (hn : i < nL) (hl : (i, Value.int x) :: L.filter (fun q => !(q.1 == i) && !(q.1 + 1 == i && q.2.category == 2)) = L')
    (k : mv_V p l e R s m args below meth c G nL cells slots Q σ (pc + 1) L' st) : mv_V p l e R s m args below meth c G nL cells slots Q σ pc L (.int x :: st) := fun H locs ls h1 h2 h3 => lv_istore_n B.1.1 B.1.2 hdg hi h3 hn hl (fun ls' h => k H locs ls' h1 h2 h)
theorem mv_istore (B : mv_B p s m args meth c G ws own cc nL) {i : Nat} {x : Int32} {L' : List (Nat × Value)} (hdg : decode cc pc = .ok (.istore i, 2)) (hn : i < nL) (hl : (i, Value.int x) :: L.filter (fun q => !(q.1 == i) && !(q.1 + 1 == i && q.2.category == 2)) = L')
    (k : mv_V p l e R s m args below meth c G nL cells slots Q σ (pc + 2) L' st) : mv_V p l e R s m args below meth c G nL cells slots Q σ pc L (.int x :: st) := fun H locs ls h1 h2 h3 => lv_istore B.1.1 B.1.2 hdg h3 hn hl (fun ls' h => k H locs ls' h1 h2 h)
theorem mv_lstore_n (B : mv_B p s m args meth c G ws own cc nL) {kk : Fin 4} {i : Nat} {x : Int64} {L' : List (Nat × Value)} (hdg : decode cc pc = .ok (.lstore_n kk, 1)) (hi : (kk : Nat) = i) (hn : i + 1 < nL) (hl : (i, Value.long x) :: L.filter (fun q => !(q.1 == i) && (!(q.1 == i + 1) && !(q.1 + 1 == i && q.2.category == 2))) = L')
    (k : mv_V p l e R s m args below meth c G nL cells slots Q σ (pc + 1) L' st) : mv_V p l e R s m args below meth c G nL cells slots Q σ pc L (.long x :: st) := fun H locs ls h1 h2 h3 => lv_lstore_n B.1.1 B.1.2 hdg hi h3 hn hl (fun ls' h => k H locs ls' h1 h2 h)
theorem mv_lstore (B : mv_B p s m args meth c G ws own cc nL) {i : Nat} {x : Int64} {L' : List (Nat × Value)} (hdg : decode cc pc = .ok (.lstore i, 2)) (hn : i + 1 < nL) (hl : (i, Value.long x) :: L.filter (fun q => !(q.1 == i) && (!(q.1 == i + 1) && !(q.1 + 1 == i && q.2.category == 2))) = L')
    (k : mv_V p l e R s m args below meth c G nL cells slots Q σ (pc + 2) L' st) : mv_V p l e R s m args below meth c G nL cells slots Q σ pc L (.long x :: st) := fun H locs ls h1 h2 h3 => lv_lstore B.1.1 B.1.2 hdg h3 hn hl (fun ls' h => k H locs ls' h1 h2 h)
theorem mv_astore_n (B : mv_B p s m args meth c G ws own cc nL) {kk : Fin 4} {i : Nat} {x : Nat} {L' : List (Nat × Value)} (hdg : decode cc pc = .ok (.astore_n kk, 1)) (hi : (kk : Nat) = i) (hn : i < nL) (hl : (i, Value.ref x) :: L.filter (fun q => !(q.1 == i) && !(q.1 + 1 == i && q.2.category == 2)) = L')
    (k : mv_V p l e R s m args below meth c G nL cells slots Q σ (pc + 1) L' st) : mv_V p l e R s m args below meth c G nL cells slots Q σ pc L (.ref x :: st) := fun H locs ls h1 h2 h3 => lv_astore_n B.1.1 B.1.2 hdg hi h3 hn hl (fun ls' h => k H locs ls' h1 h2 h)
theorem mv_astore (B : mv_B p s m args meth c G ws own cc nL) {i : Nat} {x : Nat} {L' : List (Nat × Value)} (hdg : decode cc pc = .ok (.astore i, 2)) (hn : i < nL) (hl : (i, Value.ref x) :: L.filter (fun q => !(q.1 == i) && !(q.1 + 1 == i && q.2.category == 2)) = L')
    (k : mv_V p l e R s m args below meth c G nL cells slots Q σ (pc + 2) L' st) : mv_V p l e R s m args below meth c G nL cells slots Q σ pc L (.ref x :: st) := fun H locs ls h1 h2 h3 => lv_astore B.1.1 B.1.2 hdg h3 hn hl (fun ls' h => k H locs ls' h1 h2 h)
theorem mv_iinc (B : mv_B p s m args meth c G ws own cc nL) {i j : Nat} {n : Int} {x v : Int32} {L' : List (Nat × Value)} (hdg : decode cc pc = .ok (.iinc i n, 3)) (hj : L[j]? = some (i, .int x)) (hv : Int32.ofInt n = v) (hn : i < nL) (hl : (i, Value.int (x + v)) :: L.filter (fun q => !(q.1 == i) && !(q.1 + 1 == i && q.2.category == 2)) = L')
    (k : mv_V p l e R s m args below meth c G nL cells slots Q σ (pc + 3) L' st) : mv_V p l e R s m args below meth c G nL cells slots Q σ pc L st := fun H locs ls h1 h2 h3 => lv_iinc (v := x + v) B.1.1 B.1.2 hdg h3 hj (by rw [hv]) hn hl (fun ls' h => k H locs ls' h1 h2 h)
theorem mv_if_eq (B : mv_B p s m args meth c G ws own cc nL) {x : Int32} {off : Int} {tgt : Nat} (hdg : decode cc pc = .ok (.ifCond .eq off, 3)) (ht : (pc : Int) + off = (tgt : Int))
    (kt : x = 0 → mv_V p l e R s m args below meth c G nL cells slots Q σ tgt L st) (kf : ¬ x = 0 → mv_V p l e R s m args below meth c G nL cells slots Q σ (pc + 3) L st) : mv_V p l e R s m args below meth c G nL cells slots Q σ pc L (.int x :: st) := fun H locs ls h1 h2 h3 => lv_if_eq B.1.1 B.1.2 hdg ht (fun h => kt h H locs ls h1 h2 h3) (fun h => kf h H locs ls h1 h2 h3)
theorem mv_if_ne (B : mv_B p s m args meth c G ws own cc nL) {x : Int32} {off : Int} {tgt : Nat} (hdg : decode cc pc = .ok (.ifCond .ne off, 3)) (ht : (pc : Int) + off = (tgt : Int))
    (kt : ¬ x = 0 → mv_V p l e R s m args below meth c G nL cells slots Q σ tgt L st) (kf : x = 0 → mv_V p l e R s m args below meth c G nL cells slots Q σ (pc + 3) L st) : mv_V p l e R s m args below meth c G nL cells slots Q σ pc L (.int x :: st) := fun H locs ls h1 h2 h3 => lv_if_ne B.1.1 B.1.2 hdg ht (fun h => kt h H locs ls h1 h2 h3) (fun h => kf h H locs ls h1 h2 h3)
theorem mv_if_lt (B : mv_B p s m args meth c G ws own cc nL) {x : Int32} {off : Int} {tgt : Nat} (hdg : decode cc pc = .ok (.ifCond .lt off, 3)) (ht : (pc : Int) + off = (tgt : Int))
    (kt : x < 0 → mv_V p l e R s m args below meth c G nL cells slots Q σ tgt L st) (kf : ¬ x < 0 → mv_V p l e R s m args below meth c G nL cells slots Q σ (pc + 3) L st) : mv_V p l e R s m args below meth c G nL cells slots Q σ pc L (.int x :: st) := fun H locs ls h1 h2 h3 => lv_if_lt B.1.1 B.1.2 hdg ht (fun h => kt h H locs ls h1 h2 h3) (fun h => kf h H locs ls h1 h2 h3)
theorem mv_if_ge (B : mv_B p s m args meth c G ws own cc nL) {x : Int32} {off : Int} {tgt : Nat} (hdg : decode cc pc = .ok (.ifCond .ge off, 3)) (ht : (pc : Int) + off = (tgt : Int))
    (kt : 0 ≤ x → mv_V p l e R s m args below meth c G nL cells slots Q σ tgt L st) (kf : ¬ 0 ≤ x → mv_V p l e R s m args below meth c G nL cells slots Q σ (pc + 3) L st) : mv_V p l e R s m args below meth c G nL cells slots Q σ pc L (.int x :: st) := fun H locs ls h1 h2 h3 => lv_if_ge B.1.1 B.1.2 hdg ht (fun h => kt h H locs ls h1 h2 h3) (fun h => kf h H locs ls h1 h2 h3)
theorem mv_if_gt (B : mv_B p s m args meth c G ws own cc nL) {x : Int32} {off : Int} {tgt : Nat} (hdg : decode cc pc = .ok (.ifCond .gt off, 3)) (ht : (pc : Int) + off = (tgt : Int))
    (kt : 0 < x → mv_V p l e R s m args below meth c G nL cells slots Q σ tgt L st) (kf : ¬ 0 < x → mv_V p l e R s m args below meth c G nL cells slots Q σ (pc + 3) L st) : mv_V p l e R s m args below meth c G nL cells slots Q σ pc L (.int x :: st) := fun H locs ls h1 h2 h3 => lv_if_gt B.1.1 B.1.2 hdg ht (fun h => kt h H locs ls h1 h2 h3) (fun h => kf h H locs ls h1 h2 h3)
theorem mv_if_le (B : mv_B p s m args meth c G ws own cc nL) {x : Int32} {off : Int} {tgt : Nat} (hdg : decode cc pc = .ok (.ifCond .le off, 3)) (ht : (pc : Int) + off = (tgt : Int))
    (kt : x ≤ 0 → mv_V p l e R s m args below meth c G nL cells slots Q σ tgt L st) (kf : ¬ x ≤ 0 → mv_V p l e R s m args below meth c G nL cells slots Q σ (pc + 3) L st) : mv_V p l e R s m args below meth c G nL cells slots Q σ pc L (.int x :: st) := fun H locs ls h1 h2 h3 => lv_if_le B.1.1 B.1.2 hdg ht (fun h => kt h H locs ls h1 h2 h3) (fun h => kf h H locs ls h1 h2 h3)
theorem mv_icmp_eq (B : mv_B p s m args meth c G ws own cc nL) {x y : Int32} {off : Int} {tgt : Nat} (hdg : decode cc pc = .ok (.if_icmp .eq off, 3)) (ht : (pc : Int) + off = (tgt : Int))
    (kt : x = y → mv_V p l e R s m args below meth c G nL cells slots Q σ tgt L st) (kf : ¬ x = y → mv_V p l e R s m args below meth c G nL cells slots Q σ (pc + 3) L st) : mv_V p l e R s m args below meth c G nL cells slots Q σ pc L (.int y :: .int x :: st) := fun H locs ls h1 h2 h3 => lv_icmp_eq B.1.1 B.1.2 hdg ht (fun h => kt h H locs ls h1 h2 h3) (fun h => kf h H locs ls h1 h2 h3)
theorem mv_icmp_ne (B : mv_B p s m args meth c G ws own cc nL) {x y : Int32} {off : Int} {tgt : Nat} (hdg : decode cc pc = .ok (.if_icmp .ne off, 3)) (ht : (pc : Int) + off = (tgt : Int))
    (kt : ¬ x = y → mv_V p l e R s m args below meth c G nL cells slots Q σ tgt L st) (kf : x = y → mv_V p l e R s m args below meth c G nL cells slots Q σ (pc + 3) L st) : mv_V p l e R s m args below meth c G nL cells slots Q σ pc L (.int y :: .int x :: st) := fun H locs ls h1 h2 h3 => lv_icmp_ne B.1.1 B.1.2 hdg ht (fun h => kt h H locs ls h1 h2 h3) (fun h => kf h H locs ls h1 h2 h3)
theorem mv_icmp_lt (B : mv_B p s m args meth c G ws own cc nL) {x y : Int32} {off : Int} {tgt : Nat} (hdg : decode cc pc = .ok (.if_icmp .lt off, 3)) (ht : (pc : Int) + off = (tgt : Int))
    (kt : x < y → mv_V p l e R s m args below meth c G nL cells slots Q σ tgt L st) (kf : ¬ x < y → mv_V p l e R s m args below meth c G nL cells slots Q σ (pc + 3) L st) : mv_V p l e R s m args below meth c G nL cells slots Q σ pc L (.int y :: .int x :: st) := fun H locs ls h1 h2 h3 => lv_icmp_lt B.1.1 B.1.2 hdg ht (fun h => kt h H locs ls h1 h2 h3) (fun h => kf h H locs ls h1 h2 h3)
theorem mv_icmp_ge (B : mv_B p s m args meth c G ws own cc nL) {x y : Int32} {off : Int} {tgt : Nat} (hdg : decode cc pc = .ok (.if_icmp .ge off, 3)) (ht : (pc : Int) + off = (tgt : Int))
    (kt : y ≤ x → mv_V p l e R s m args below meth c G nL cells slots Q σ tgt L st) (kf : ¬ y ≤ x → mv_V p l e R s m args below meth c G nL cells slots Q σ (pc + 3) L st) : mv_V p l e R s m args below meth c G nL cells slots Q σ pc L (.int y :: .int x :: st) := fun H locs ls h1 h2 h3 => lv_icmp_ge B.1.1 B.1.2 hdg ht (fun h => kt h H locs ls h1 h2 h3) (fun h => kf h H locs ls h1 h2 h3)
theorem mv_icmp_gt (B : mv_B p s m args meth c G ws own cc nL) {x y : Int32} {off : Int} {tgt : Nat} (hdg : decode cc pc = .ok (.if_icmp .gt off, 3)) (ht : (pc : Int) + off = (tgt : Int))
    (kt : y < x → mv_V p l e R s m args below meth c G nL cells slots Q σ tgt L st) (kf : ¬ y < x → mv_V p l e R s m args below meth c G nL cells slots Q σ (pc + 3) L st) : mv_V p l e R s m args below meth c G nL cells slots Q σ pc L (.int y :: .int x :: st) := fun H locs ls h1 h2 h3 => lv_icmp_gt B.1.1 B.1.2 hdg ht (fun h => kt h H locs ls h1 h2 h3) (fun h => kf h H locs ls h1 h2 h3)
theorem mv_icmp_le (B : mv_B p s m args meth c G ws own cc nL) {x y : Int32} {off : Int} {tgt : Nat} (hdg : decode cc pc = .ok (.if_icmp .le off, 3)) (ht : (pc : Int) + off = (tgt : Int))
    (kt : x ≤ y → mv_V p l e R s m args below meth c G nL cells slots Q σ tgt L st) (kf : ¬ x ≤ y → mv_V p l e R s m args below meth c G nL cells slots Q σ (pc + 3) L st) : mv_V p l e R s m args below meth c G nL cells slots Q σ pc L (.int y :: .int x :: st) := fun H locs ls h1 h2 h3 => lv_icmp_le B.1.1 B.1.2 hdg ht (fun h => kt h H locs ls h1 h2 h3) (fun h => kf h H locs ls h1 h2 h3)
theorem mv_goto (B : mv_B p s m args meth c G ws own cc nL) {off : Int} {tgt : Nat} (hdg : decode cc pc = .ok (.goto off, 3)) (ht : (pc : Int) + off = (tgt : Int)) (k : mv_V p l e R s m args below meth c G nL cells slots Q σ tgt L st) : mv_V p l e R s m args below meth c G nL cells slots Q σ pc L st := fun H locs ls h1 h2 h3 => lv_goto B.1.1 B.1.2 hdg ht (k H locs ls h1 h2 h3)
theorem mv_lookup (B : mv_B p s m args meth c G ws own cc nL) {dflt : Int} {ps : Array (Int × Int)} {len : Nat} {x : Int32} {off : Int} {tgt : Nat} (hdg : decode cc pc = .ok (.lookupswitch dflt ps, len)) (hp : (ps.toList.zip (ps.toList.drop 1)).all (fun (a, next) => a.1 < next.1) = true) (ho : Op.lookupswitch.offset ps.toList dflt x.toInt = off) (ht : (pc : Int) + off = (tgt : Int))
    (k : mv_V p l e R s m args below meth c G nL cells slots Q σ tgt L st) : mv_V p l e R s m args below meth c G nL cells slots Q σ pc L (.int x :: st) := fun H locs ls h1 h2 h3 => lv_lookup B.1.1 B.1.2 hdg hp ho ht (k H locs ls h1 h2 h3)
theorem mv_tableOut (B : mv_B p s m args meth c G ws own cc nL) {dflt lo hi : Int} {offs : Array Int} {len : Nat} {x : Int32} {tgt : Nat} (hdg : decode cc pc = .ok (.tableswitch dflt lo hi offs, len)) (h : x.toInt < lo ∨ hi < x.toInt) (ht : (pc : Int) + dflt = (tgt : Int))
    (k : mv_V p l e R s m args below meth c G nL cells slots Q σ tgt L st) : mv_V p l e R s m args below meth c G nL cells slots Q σ pc L (.int x :: st) := fun H locs ls h1 h2 h3 => lv_tableOut B.1.1 B.1.2 hdg h ht (k H locs ls h1 h2 h3)
theorem mv_tableIn (B : mv_B p s m args meth c G ws own cc nL) {dflt lo hi : Int} {offs : Array Int} {len : Nat} {x : Int32} {off : Int} {tgt : Nat} (hdg : decode cc pc = .ok (.tableswitch dflt lo hi offs, len)) (h1 : ¬ x.toInt < lo) (h2 : ¬ hi < x.toInt) (ho : offs[(x.toInt - lo).toNat]? = some off) (ht : (pc : Int) + off = (tgt : Int))
    (k : mv_V p l e R s m args below meth c G nL cells slots Q σ tgt L st) : mv_V p l e R s m args below meth c G nL cells slots Q σ pc L (.int x :: st) := fun H locs ls g1 g2 g3 => lv_tableIn B.1.1 B.1.2 hdg h1 h2 ho ht (k H locs ls g1 g2 g3)
theorem mv_ldc (B : mv_B p s m args meth c G ws own cc nL) {index : Nat} {v : Int32} (hconst : (Jvm.Cond.constant own index v).before args s = true) (hdg : decode cc pc = .ok (.ldc index, 2)) (k : mv_V p l e R s m args below meth c G nL cells slots Q σ (pc + 2) L (.int v :: st)) : mv_V p l e R s m args below meth c G nL cells slots Q σ pc L st := fun H locs ls h1 h2 h3 => lv_ldc B.1.1 B.1.2 B.2.2.1 hconst hdg (k H locs ls h1 h2 h3)
theorem mv_ldc2 (B : mv_B p s m args meth c G ws own cc nL) {index : Nat} {v : Int64} (hconst : (Jvm.Cond.constantLong own index v).before args s = true) (hdg : decode cc pc = .ok (.ldc2_w index, 3)) (k : mv_V p l e R s m args below meth c G nL cells slots Q σ (pc + 3) L (.long v :: st)) : mv_V p l e R s m args below meth c G nL cells slots Q σ pc L st := fun H locs ls h1 h2 h3 => lv_ldc2 B.1.1 B.1.2 B.2.2.1 hconst hdg (k H locs ls h1 h2 h3)
theorem mv_topi {x : Int32} (k : ∀ y : Int32, y = x → mv_V p l e R s m args below meth c G nL cells slots Q σ pc L (.int y :: st)) : mv_V p l e R s m args below meth c G nL cells slots Q σ pc L (.int x :: st) := k x rfl
theorem mv_topl {x : Int64} (k : ∀ y : Int64, y = x → mv_V p l e R s m args below meth c G nL cells slots Q σ pc L (.long y :: st)) : mv_V p l e R s m args below meth c G nL cells slots Q σ pc L (.long x :: st) := k x rfl
theorem mv_getI (B : mv_B p s m args meth c G ws own cc nL) {C : String} {T : u_T} {N index o ci : Nat} (k : Nat) (hs : (mv_sh G)[o]? = some (.inl ci)) (hc : (mv_cl G)[ci]? = some (C, T, N)) (hk : k < N) (hin : ∀ w ∈ u_ws C T N, w ∈ ws) (hlink : (Cond.fieldLink own index (T k).1 (T k).2.1 (T k).2.2.1).before args s = true) (hty : mv_isI (mv_ft G ci k) = true) (hdg : decode cc pc = .ok (.getfield index, 3))
    (kk : mv_V p l e R s m args below meth c G nL cells slots Q σ (pc + 3) L (.int (mv_i σ o k) :: st)) : mv_V p l e R s m args below meth c G nL cells slots Q σ pc L (.ref (mv_al G o) :: st) := fun H locs ls h1 h2 h3 => by
  have hn : mv_nf (mv_cl G) ci = N := by unfold mv_nf; rw [hc]
  exact va_get (ci := ci) (v := .int (mv_i σ o k)) B.1.1 B.1.2 B.2.2.2.1 hin B.2.2.1 B.2.2.2.2.1 h1 o (mv_wl_o σ hs) hc k hk hlink (fun _ h => h) (by rw [mv_fs_at σ (by rw [hn]; exact hk), mv_fvI hty]) hdg (kk H locs ls h1 h2 h3)
theorem mv_getL (B : mv_B p s m args meth c G ws own cc nL) {C : String} {T : u_T} {N index o ci : Nat} (k : Nat) (hs : (mv_sh G)[o]? = some (.inl ci)) (hc : (mv_cl G)[ci]? = some (C, T, N)) (hk : k < N) (hin : ∀ w ∈ u_ws C T N, w ∈ ws) (hlink : (Cond.fieldLink own index (T k).1 (T k).2.1 (T k).2.2.1).before args s = true) (hty : mv_ft G ci k = .long) (hdg : decode cc pc = .ok (.getfield index, 3))
    (kk : mv_V p l e R s m args below meth c G nL cells slots Q σ (pc + 3) L (.long (mv_l σ o k) :: st)) : mv_V p l e R s m args below meth c G nL cells slots Q σ pc L (.ref (mv_al G o) :: st) := fun H locs ls h1 h2 h3 => by
  have hn : mv_nf (mv_cl G) ci = N := by unfold mv_nf; rw [hc]
  exact va_get (ci := ci) (v := .long (mv_l σ o k)) B.1.1 B.1.2 B.2.2.2.1 hin B.2.2.1 B.2.2.2.2.1 h1 o (mv_wl_o σ hs) hc k hk hlink (fun _ h => h) (by rw [mv_fs_at σ (by rw [hn]; exact hk), hty]; rfl) hdg (kk H locs ls h1 h2 h3)
theorem mv_getR (B : mv_B p s m args meth c G ws own cc nL) {C : String} {T : u_T} {N index o ci : Nat} (k : Nat) (hs : (mv_sh G)[o]? = some (.inl ci)) (hc : (mv_cl G)[ci]? = some (C, T, N)) (hk : k < N) (hin : ∀ w ∈ u_ws C T N, w ∈ ws) (hlink : (Cond.fieldLink own index (T k).1 (T k).2.1 (T k).2.2.1).before args s = true) {r : Nat} (hty : mv_isR (mv_ft G ci k) = true) (hr : mv_r σ o k = some r) (hdg : decode cc pc = .ok (.getfield index, 3))
    (kk : mv_V p l e R s m args below meth c G nL cells slots Q σ (pc + 3) L (.ref (mv_al G r) :: st)) : mv_V p l e R s m args below meth c G nL cells slots Q σ pc L (.ref (mv_al G o) :: st) := fun H locs ls h1 h2 h3 => by
  have hn : mv_nf (mv_cl G) ci = N := by unfold mv_nf; rw [hc]
  exact va_get (ci := ci) (v := .ref (mv_al G r)) B.1.1 B.1.2 B.2.2.2.1 hin B.2.2.1 B.2.2.2.2.1 h1 o (mv_wl_o σ hs) hc k hk hlink (fun _ h => h) (by rw [mv_fs_at σ (by rw [hn]; exact hk), mv_fvR hty, hr]; rfl) hdg (kk H locs ls h1 h2 h3)
theorem mv_putI (B : mv_B p s m args meth c G ws own cc nL) {v : Int32} {C : String} {T : u_T} {N index o ci : Nat} (k : Nat) (hs : (mv_sh G)[o]? = some (.inl ci)) (hc : (mv_cl G)[ci]? = some (C, T, N)) (hk : k < N) (hin : ∀ w ∈ u_ws C T N, w ∈ ws) (ht0 : ∀ j, j < N → parseFieldDescriptor (T j).2.2.1 = some (mv_ft G ci j)) (hnm : ∀ a, a < N → ∀ b, b < N → a ≠ b → (T a).2.1 ≠ (T b).2.1) (hlink : (Cond.fieldLink own index (T k).1 (T k).2.1 (T k).2.2.1).before args s = true) (hfin : (T k).2.2.2 = false) (hty : mv_isI (mv_ft G ci k) = true) (hnr : narrow (mv_ft G ci k) (.int v) = .int v) (hft : fits (mv_ft G ci k) (.int v) = true) (hdg : decode cc pc = .ok (.putfield index, 3))
    (kk : mv_V p l e R s m args below meth c G nL cells slots Q (mv_si σ o k v) (pc + 3) L st) : mv_V p l e R s m args below meth c G nL cells slots Q σ pc L (.int v :: .ref (mv_al G o) :: st) := fun H locs ls h1 h2 h3 => by
  have hn : mv_nf (mv_cl G) ci = N := by unfold mv_nf; rw [hc]
  refine va_put (ci := ci) (v := .int v) B.1.1 B.1.2 B.2.2.2.1 hin (mv_ft G ci) ht0 hnm B.2.2.1 B.2.2.2.2.1 h1 (mv_wl_D B.2.2.2.2.2.1 σ s.heap.size) h2 o (mv_wl_o σ hs) hc k hk hlink (fun _ h => h) hfin (ht0 k hk) hnr hft (by rw [mv_fs_len, hn]; exact hk) hdg (fun H1 locs1 g1 g2 g3 => ?_)
  rw [← mv_wl_si hs (by rw [hn]; exact hk) hty] at g1
  exact kk H1 locs1 ls g1 g3 h3
theorem mv_putL (B : mv_B p s m args meth c G ws own cc nL) {v : Int64} {C : String} {T : u_T} {N index o ci : Nat} (k : Nat) (hs : (mv_sh G)[o]? = some (.inl ci)) (hc : (mv_cl G)[ci]? = some (C, T, N)) (hk : k < N) (hin : ∀ w ∈ u_ws C T N, w ∈ ws) (ht0 : ∀ j, j < N → parseFieldDescriptor (T j).2.2.1 = some (mv_ft G ci j)) (hnm : ∀ a, a < N → ∀ b, b < N → a ≠ b → (T a).2.1 ≠ (T b).2.1) (hlink : (Cond.fieldLink own index (T k).1 (T k).2.1 (T k).2.2.1).before args s = true) (hfin : (T k).2.2.2 = false) (hty : mv_ft G ci k = .long) (hdg : decode cc pc = .ok (.putfield index, 3))
    (kk : mv_V p l e R s m args below meth c G nL cells slots Q (mv_sl σ o k v) (pc + 3) L st) : mv_V p l e R s m args below meth c G nL cells slots Q σ pc L (.long v :: .ref (mv_al G o) :: st) := fun H locs ls h1 h2 h3 => by
  have hn : mv_nf (mv_cl G) ci = N := by unfold mv_nf; rw [hc]
  refine va_put (ci := ci) (v := .long v) B.1.1 B.1.2 B.2.2.2.1 hin (mv_ft G ci) ht0 hnm B.2.2.1 B.2.2.2.2.1 h1 (mv_wl_D B.2.2.2.2.2.1 σ s.heap.size) h2 o (mv_wl_o σ hs) hc k hk hlink (fun _ h => h) hfin (ht0 k hk) (by rw [hty]; rfl) (by rw [hty]; rfl) (by rw [mv_fs_len, hn]; exact hk) hdg (fun H1 locs1 g1 g2 g3 => ?_)
  rw [← mv_wl_sl hs (by rw [hn]; exact hk) hty] at g1
  exact kk H1 locs1 ls g1 g3 h3
theorem mv_putR (B : mv_B p s m args meth c G ws own cc nL) {r : Nat} {C : String} {T : u_T} {N index o ci : Nat} (k : Nat) (hs : (mv_sh G)[o]? = some (.inl ci)) (hc : (mv_cl G)[ci]? = some (C, T, N)) (hk : k < N) (hin : ∀ w ∈ u_ws C T N, w ∈ ws) (ht0 : ∀ j, j < N → parseFieldDescriptor (T j).2.2.1 = some (mv_ft G ci j)) (hnm : ∀ a, a < N → ∀ b, b < N → a ≠ b → (T a).2.1 ≠ (T b).2.1) (hlink : (Cond.fieldLink own index (T k).1 (T k).2.1 (T k).2.2.1).before args s = true) (hfin : (T k).2.2.2 = false) (hty : mv_isR (mv_ft G ci k) = true) (hdg : decode cc pc = .ok (.putfield index, 3))
    (kk : mv_V p l e R s m args below meth c G nL cells slots Q (mv_sr σ o k (some r)) (pc + 3) L st) : mv_V p l e R s m args below meth c G nL cells slots Q σ pc L (.ref (mv_al G r) :: .ref (mv_al G o) :: st) := fun H locs ls h1 h2 h3 => by
  have hn : mv_nf (mv_cl G) ci = N := by unfold mv_nf; rw [hc]
  refine va_put (ci := ci) (v := .ref (mv_al G r)) B.1.1 B.1.2 B.2.2.2.1 hin (mv_ft G ci) ht0 hnm B.2.2.1 B.2.2.2.2.1 h1 (mv_wl_D B.2.2.2.2.2.1 σ s.heap.size) h2 o (mv_wl_o σ hs) hc k hk hlink (fun _ h => h) hfin (ht0 k hk) (by cases h9 : mv_ft G ci k <;> first | rfl | (rw [h9] at hty; cases hty)) (by cases h9 : mv_ft G ci k <;> first | rfl | (rw [h9] at hty; cases hty)) (by rw [mv_fs_len, hn]; exact hk) hdg (fun H1 locs1 g1 g2 g3 => ?_)
  rw [show Value.ref (mv_al G r) = va_rf (Option.map (mv_al G) (some r)) from rfl, ← mv_wl_sr hs (by rw [hn]; exact hk) hty] at g1
  exact kk H1 locs1 ls g1 g3 h3
theorem mv_iald (B : mv_B p s m args meth c G ws own cc nL) {o n : Nat} {i : Int32} (hs : (mv_sh G)[o]? = some (.inr (.int, n))) (hb : vp_in i n) (hdg : decode cc pc = .ok (.iaload, 1))
    (kk : mv_V p l e R s m args below meth c G nL cells slots Q σ (pc + 1) L (.int (mv_a σ o i.toNatClampNeg) :: st)) : mv_V p l e R s m args below meth c G nL cells slots Q σ pc L (.int i :: .ref (mv_al G o) :: st) := fun H locs ls h1 h2 h3 => va_iald B.1.1 B.1.2 B.2.2.2.2.1 h1 o 0 (mv_wl_a σ hs) rfl hb hdg (kk H locs ls h1 h2 h3)
theorem mv_bald (B : mv_B p s m args meth c G ws own cc nL) {o n : Nat} {i : Int32} (hs : (mv_sh G)[o]? = some (.inr (.byte, n))) (hb : vp_in i n) (hdg : decode cc pc = .ok (.baload, 1))
    (kk : mv_V p l e R s m args below meth c G nL cells slots Q σ (pc + 1) L (.int (mv_a σ o i.toNatClampNeg) :: st)) : mv_V p l e R s m args below meth c G nL cells slots Q σ pc L (.int i :: .ref (mv_al G o) :: st) := fun H locs ls h1 h2 h3 => va_bald B.1.1 B.1.2 B.2.2.2.2.1 h1 o 2 (mv_wl_a σ hs) rfl hb hdg (kk H locs ls h1 h2 h3)
theorem mv_zald (B : mv_B p s m args meth c G ws own cc nL) {o n : Nat} {i : Int32} (hs : (mv_sh G)[o]? = some (.inr (.boolean, n))) (hb : vp_in i n) (hdg : decode cc pc = .ok (.baload, 1))
    (kk : mv_V p l e R s m args below meth c G nL cells slots Q σ (pc + 1) L (.int (mv_a σ o i.toNatClampNeg) :: st)) : mv_V p l e R s m args below meth c G nL cells slots Q σ pc L (.int i :: .ref (mv_al G o) :: st) := fun H locs ls h1 h2 h3 => va_zald B.1.1 B.1.2 B.2.2.2.2.1 h1 o 3 (mv_wl_a σ hs) rfl hb hdg (kk H locs ls h1 h2 h3)
theorem mv_lald (B : mv_B p s m args meth c G ws own cc nL) {o n : Nat} {i : Int32} (hs : (mv_sh G)[o]? = some (.inr (.long, n))) (hb : vp_in i n) (hdg : decode cc pc = .ok (.laload, 1))
    (kk : mv_V p l e R s m args below meth c G nL cells slots Q σ (pc + 1) L (.long (mv_b σ o i.toNatClampNeg) :: st)) : mv_V p l e R s m args below meth c G nL cells slots Q σ pc L (.int i :: .ref (mv_al G o) :: st) := fun H locs ls h1 h2 h3 => va_lald B.1.1 B.1.2 B.2.2.2.2.1 h1 o 1 (mv_wl_a σ hs) rfl hb hdg (kk H locs ls h1 h2 h3)
theorem mv_iast (B : mv_B p s m args meth c G ws own cc nL) {o n : Nat} {i x : Int32} (hs : (mv_sh G)[o]? = some (.inr (.int, n))) (hb : vp_in i n) (hdg : decode cc pc = .ok (.iastore, 1))
    (kk : mv_V p l e R s m args below meth c G nL cells slots Q (mv_sa σ o i.toNatClampNeg x) (pc + 1) L st) : mv_V p l e R s m args below meth c G nL cells slots Q σ pc L (.int x :: .int i :: .ref (mv_al G o) :: st) := fun H locs ls h1 h2 h3 => by
  refine va_iast B.1.1 B.1.2 B.2.2.2.2.1 h1 (mv_wl_D B.2.2.2.2.2.1 σ s.heap.size) h2 o 0 (mv_wl_a σ hs) rfl hb hdg (fun H1 locs1 g1 g2 g3 => ?_)
  rw [← mv_wl_sa hs rfl] at g1
  exact kk H1 locs1 ls g1 g3 h3
theorem mv_bast (B : mv_B p s m args meth c G ws own cc nL) {o n : Nat} {i x : Int32} (hs : (mv_sh G)[o]? = some (.inr (.byte, n))) (hb : vp_in i n) (hdg : decode cc pc = .ok (.bastore, 1))
    (kk : mv_V p l e R s m args below meth c G nL cells slots Q (mv_sa σ o i.toNatClampNeg (vp_nar .byte x)) (pc + 1) L st) : mv_V p l e R s m args below meth c G nL cells slots Q σ pc L (.int x :: .int i :: .ref (mv_al G o) :: st) := fun H locs ls h1 h2 h3 => by
  refine va_bast B.1.1 B.1.2 B.2.2.2.2.1 h1 (mv_wl_D B.2.2.2.2.2.1 σ s.heap.size) h2 o 2 (mv_wl_a σ hs) rfl hb hdg (fun H1 locs1 g1 g2 g3 => ?_)
  rw [← mv_wl_sa hs rfl] at g1
  exact kk H1 locs1 ls g1 g3 h3
theorem mv_zast (B : mv_B p s m args meth c G ws own cc nL) {o n : Nat} {i x : Int32} (hs : (mv_sh G)[o]? = some (.inr (.boolean, n))) (hb : vp_in i n) (hdg : decode cc pc = .ok (.bastore, 1))
    (kk : mv_V p l e R s m args below meth c G nL cells slots Q (mv_sa σ o i.toNatClampNeg (vp_nar .boolean x)) (pc + 1) L st) : mv_V p l e R s m args below meth c G nL cells slots Q σ pc L (.int x :: .int i :: .ref (mv_al G o) :: st) := fun H locs ls h1 h2 h3 => by
  refine va_zast B.1.1 B.1.2 B.2.2.2.2.1 h1 (mv_wl_D B.2.2.2.2.2.1 σ s.heap.size) h2 o 3 (mv_wl_a σ hs) rfl hb hdg (fun H1 locs1 g1 g2 g3 => ?_)
  rw [← mv_wl_sa hs rfl] at g1
  exact kk H1 locs1 ls g1 g3 h3
theorem mv_last (B : mv_B p s m args meth c G ws own cc nL) {o n : Nat} {i : Int32} {x : Int64} (hs : (mv_sh G)[o]? = some (.inr (.long, n))) (hb : vp_in i n) (hdg : decode cc pc = .ok (.lastore, 1))
    (kk : mv_V p l e R s m args below meth c G nL cells slots Q (mv_sb σ o i.toNatClampNeg x) (pc + 1) L st) : mv_V p l e R s m args below meth c G nL cells slots Q σ pc L (.long x :: .int i :: .ref (mv_al G o) :: st) := fun H locs ls h1 h2 h3 => by
  refine va_last B.1.1 B.1.2 B.2.2.2.2.1 h1 (mv_wl_D B.2.2.2.2.2.1 σ s.heap.size) h2 o 1 (mv_wl_a σ hs) rfl hb hdg (fun H1 locs1 g1 g2 g3 => ?_)
  rw [← mv_wl_sb hs] at g1
  exact kk H1 locs1 ls g1 g3 h3
theorem mv_alenI (B : mv_B p s m args meth c G ws own cc nL) {o n : Nat} {v : Int32} (hs : (mv_sh G)[o]? = some (.inr (.int, n))) (hv : Int32.ofNat n = v) (hdg : decode cc pc = .ok (.arraylength, 1))
    (kk : mv_V p l e R s m args below meth c G nL cells slots Q σ (pc + 1) L (.int v :: st)) : mv_V p l e R s m args below meth c G nL cells slots Q σ pc L (.ref (mv_al G o) :: st) := fun H locs ls h1 h2 h3 => va_alen B.1.1 B.1.2 B.2.2.2.2.1 h1 o 0 (mv_wl_a σ hs) rfl hv hdg (kk H locs ls h1 h2 h3)
theorem mv_alenL (B : mv_B p s m args meth c G ws own cc nL) {o n : Nat} {v : Int32} (hs : (mv_sh G)[o]? = some (.inr (.long, n))) (hv : Int32.ofNat n = v) (hdg : decode cc pc = .ok (.arraylength, 1))
    (kk : mv_V p l e R s m args below meth c G nL cells slots Q σ (pc + 1) L (.int v :: st)) : mv_V p l e R s m args below meth c G nL cells slots Q σ pc L (.ref (mv_al G o) :: st) := fun H locs ls h1 h2 h3 => va_alen B.1.1 B.1.2 B.2.2.2.2.1 h1 o 1 (mv_wl_a σ hs) rfl hv hdg (kk H locs ls h1 h2 h3)
theorem mv_alenB (B : mv_B p s m args meth c G ws own cc nL) {o n : Nat} {v : Int32} (hs : (mv_sh G)[o]? = some (.inr (.byte, n))) (hv : Int32.ofNat n = v) (hdg : decode cc pc = .ok (.arraylength, 1))
    (kk : mv_V p l e R s m args below meth c G nL cells slots Q σ (pc + 1) L (.int v :: st)) : mv_V p l e R s m args below meth c G nL cells slots Q σ pc L (.ref (mv_al G o) :: st) := fun H locs ls h1 h2 h3 => va_alen B.1.1 B.1.2 B.2.2.2.2.1 h1 o 2 (mv_wl_a σ hs) rfl hv hdg (kk H locs ls h1 h2 h3)
theorem mv_alenZ (B : mv_B p s m args meth c G ws own cc nL) {o n : Nat} {v : Int32} (hs : (mv_sh G)[o]? = some (.inr (.boolean, n))) (hv : Int32.ofNat n = v) (hdg : decode cc pc = .ok (.arraylength, 1))
    (kk : mv_V p l e R s m args below meth c G nL cells slots Q σ (pc + 1) L (.int v :: st)) : mv_V p l e R s m args below meth c G nL cells slots Q σ pc L (.ref (mv_al G o) :: st) := fun H locs ls h1 h2 h3 => va_alen B.1.1 B.1.2 B.2.2.2.2.1 h1 o 3 (mv_wl_a σ hs) rfl hv hdg (kk H locs ls h1 h2 h3)
theorem mv_lpick {L' : List (Nat × Value)} (ks : List Nat) (hl : lv_pick L ks = L') (k : mv_V p l e R s m args below meth c G nL cells slots Q σ pc L' st) : mv_V p l e R s m args below meth c G nL cells slots Q σ pc L st := fun H locs ls h1 h2 h3 => k H locs ls h1 h2 (lv_sub h3 ks hl)
end MVR
