/-! the law's small methods -/
section MTD2
variable {p : Program} {l : Launch} {e : Env} {R : Room} {s : State} {m : MethodId} {args : Array Value} {below : List Frame} {meth : Method} {c : Code} {own X Y Z : String} {pc sp ep hp ct ct2 hp2 : Nat}
/-- two handlers, and the thrown object is of the second's class (and perhaps of the first's) -/
theorem mt_H.two (hown : s.vm.findClass own = some m.cls) (ht : mt_tab c [(sp, ep, hp, ct), (sp, ep, hp2, ct2)]) (ha : sp ≤ pc) (hb : pc < ep) (h0 : ct ≠ 0) (h02 : ct2 ≠ 0) (hlink : (Cond.classLink own ct Y).before args s = true) (hlink2 : (Cond.classLink own ct2 Z).before args s = true) (hcast : (Cond.castable X Z).before args s = true ∨ (Cond.castable X Y).before args s = true) : mt_H p l e R s m args below meth c X pc hp ∨ mt_H p l e R s m args below meth c X pc hp2 := by
  obtain ⟨x, y, hx⟩ : ∃ x y, c.exceptionTable.toList = [x, y] := by
    have h := congrArg List.length ht
    rw [List.length_map] at h
    cases hl : c.exceptionTable.toList with
    | nil => rw [hl] at h; cases h
    | cons x t =>
      cases t with
      | nil => rw [hl] at h; cases h
      | cons y t =>
        cases t with
        | nil => exact ⟨x, y, rfl⟩
        | cons z t => rw [hl] at h; simp at h
  have ht2 := ht
  unfold mt_tab at ht2
  rw [hx] at ht2
  have hx2 : (x.startPc, x.endPc, x.handlerPc, x.catchType) = (sp, ep, hp, ct) := List.head_eq_of_cons_eq ht2
  have hy2 : (y.startPc, y.endPc, y.handlerPc, y.catchType) = (sp, ep, hp2, ct2) := List.head_eq_of_cons_eq (List.tail_eq_of_cons_eq ht2)
  have e1 : x.startPc = sp := congrArg Prod.fst hx2
  have e2 : x.endPc = ep := congrArg (fun z => z.2.1) hx2
  have e3 : x.handlerPc = hp := congrArg (fun z => z.2.2.1) hx2
  have e4 : x.catchType = ct := congrArg (fun z => z.2.2.2) hx2
  have f1 : y.startPc = sp := congrArg Prod.fst hy2
  have f2 : y.endPc = ep := congrArg (fun z => z.2.1) hy2
  have f3 : y.handlerPc = hp2 := congrArg (fun z => z.2.2.1) hy2
  have f4 : y.catchType = ct2 := congrArg (fun z => z.2.2.2) hy2
  subst e4
  subst e3
  subst f4
  subst f3
  have hpl0 : ∃ cX, s.vm.findClass X = some cX := by
    rcases hcast with h | h
    · obtain ⟨cX, _, j1, -⟩ := Cond.castable_spec h
      exact ⟨cX, j1⟩
    · obtain ⟨cX, _, j1, -⟩ := Cond.castable_spec h
      exact ⟨cX, j1⟩
  obtain ⟨cX, j1⟩ := hpl0
  obtain ⟨cY, -, -, kk1, -⟩ := mt_links hown hlink ({} : Platform) rfl
  by_cases hA : s.vm.assignable cX cY = true
  · left
    intro T locs cells slots g a XS hX hg hpc
    obtain ⟨cell, x1, x2, x3, x4⟩ := hX
    have hpl : e.platform.magicAccessors = ({} : Platform).magicAccessors := by rw [XS.admits.platform]
    obtain ⟨cY', dk, kt, k1, k2, k3, k4, k5, k6⟩ := mt_links hown hlink e.platform hpl
    cases kk1.symm.trans k1
    have hcX : cell.cls = cX := by
      rw [XS.warmed.alike.findClass, j1] at x4
      exact (Option.some.inj x4).symm
    subst hg
    have hW : s.WarmedH (T.vm.noted g.method.cls x.catchType (.cls cY)) := XS.warmed.noted k3 k5 k6
    obtain ⟨ks, hks⟩ : ∃ k, s.vm.classes[cX]? = some k := Vm.classAt_of_findClass j1
    obtain ⟨ks', hks', -⟩ := hW.alike.2.2 _ _ hks
    obtain ⟨kt', hkt', -⟩ := hW.alike.2.2 _ _ k4
    have hv : ((T.setTop g).pushFrame (.throwing a)).vm = T.vm := Stand.throwing_vm T g a
    have hh : ((T.setTop g).pushFrame (.throwing a)).heap = T.heap := Stand.throwing_heap T g a
    refine ⟨T.vm.noted g.method.cls x.catchType (.cls cY), ?_, hW⟩
    have hf := FindsTo.fst (e := e) (s := (T.setTop g).pushFrame (.throwing a)) (f := g) (a := a) (meth := meth) (code := c) (x := x) (y := y) (c := cY) (cell := cell) (by rw [hv]; exact XS.method') XS.code hx (mt_covers e1 e2 (by omega) (by omega)) h0 (by rw [hv]; exact XS.warmed.classLinks k2) (by rw [hh]; exact x1) (fun k z => by rw [z] at x2; cases x2) ⟨ks', by rw [hv, hcX]; exact hks'⟩ ⟨kt', by rw [hv]; exact hkt'⟩ (by rw [hv, hW.alike.assignable, hcX]; exact hA)
    rw [hv] at hf
    exact hf
  · right
    have hcZ : (Cond.castable X Z).before args s = true := by
      rcases hcast with h | h
      · exact h
      · obtain ⟨cX', cY', q1, q2, q3⟩ := Cond.castable_spec h
        cases j1.symm.trans q1
        cases kk1.symm.trans q2
        exact absurd q3 hA
    intro T locs cells slots g a XS hX hg hpc
    obtain ⟨cell, x1, x2, x3, x4⟩ := hX
    have hpl : e.platform.magicAccessors = ({} : Platform).magicAccessors := by rw [XS.admits.platform]
    obtain ⟨cY', dk, kt, k1, k2, k3, k4, k5, k6⟩ := mt_links hown hlink e.platform hpl
    cases kk1.symm.trans k1
    obtain ⟨cZ, dk2, kt2, i1, i2, i3, i4, i5, i6⟩ := mt_links hown hlink2 e.platform hpl
    obtain ⟨cX', cZ', q1, q2, q3⟩ := Cond.castable_spec hcZ
    cases j1.symm.trans q1
    cases i1.symm.trans q2
    have hcX : cell.cls = cX := by
      rw [XS.warmed.alike.findClass, j1] at x4
      exact (Option.some.inj x4).symm
    subst hg
    have hW : s.WarmedH (T.vm.noted g.method.cls x.catchType (.cls cY)) := XS.warmed.noted k3 k5 k6
    have hW2 : s.WarmedH ((T.vm.noted g.method.cls x.catchType (.cls cY)).noted g.method.cls y.catchType (.cls cZ)) := hW.noted i3 i5 i6
    obtain ⟨ks, hks⟩ : ∃ k, s.vm.classes[cX]? = some k := Vm.classAt_of_findClass j1
    obtain ⟨ks', hks', -⟩ := hW.alike.2.2 _ _ hks
    obtain ⟨kt', hkt', -⟩ := hW.alike.2.2 _ _ k4
    obtain ⟨ks2, hks2, -⟩ := hW2.alike.2.2 _ _ hks
    obtain ⟨kt2', hkt2', -⟩ := hW2.alike.2.2 _ _ i4
    have hv : ((T.setTop g).pushFrame (.throwing a)).vm = T.vm := Stand.throwing_vm T g a
    have hh : ((T.setTop g).pushFrame (.throwing a)).heap = T.heap := Stand.throwing_heap T g a
    refine ⟨_, ?_, hW2⟩
    have hf := FindsTo.snd (e := e) (s := (T.setTop g).pushFrame (.throwing a)) (f := g) (a := a) (meth := meth) (code := c) (x := x) (y := y) (c := cY) (c' := cZ) (cell := cell) (by rw [hv]; exact XS.method') XS.code hx (mt_covers e1 e2 (by omega) (by omega)) h0 (by rw [hv]; exact XS.warmed.classLinks k2) (by rw [hh]; exact x1) (fun k z => by rw [z] at x2; cases x2) ⟨ks', by rw [hv, hcX]; exact hks'⟩ ⟨kt', by rw [hv]; exact hkt'⟩ (by rw [hv, hW.alike.assignable, hcX]; exact hA) (mt_covers f1 f2 (by omega) (by omega)) h02 (vm1 := T.vm.noted g.method.cls x.catchType (.cls cY)) (by rw [hv]) (hW.classLinks i2) ⟨ks2, by rw [hcX]; exact hks2⟩ ⟨kt2', hkt2'⟩ (by rw [hW2.alike.assignable, hcX]; exact q3)
    exact hf
/-- two handlers, and the thrown object is of the first's class -/
theorem mt_H.fst (hown : s.vm.findClass own = some m.cls) (ht : mt_tab c [(sp, ep, hp, ct), (sp, ep, hp2, ct2)]) (ha : sp ≤ pc) (hb : pc < ep) (h0 : ct ≠ 0) (hlink : (Cond.classLink own ct Y).before args s = true) (hcast : (Cond.castable X Y).before args s = true) : mt_H p l e R s m args below meth c X pc hp := by
  obtain ⟨x, y, hx⟩ : ∃ x y, c.exceptionTable.toList = [x, y] := by
    have h := congrArg List.length ht
    rw [List.length_map] at h
    cases hl : c.exceptionTable.toList with
    | nil => rw [hl] at h; cases h
    | cons x t =>
      cases t with
      | nil => rw [hl] at h; cases h
      | cons y t =>
        cases t with
        | nil => exact ⟨x, y, rfl⟩
        | cons z t => rw [hl] at h; simp at h
  have ht2 := ht
  unfold mt_tab at ht2
  rw [hx] at ht2
  have hx2 : (x.startPc, x.endPc, x.handlerPc, x.catchType) = (sp, ep, hp, ct) := List.head_eq_of_cons_eq ht2
  have hy2 : (y.startPc, y.endPc, y.handlerPc, y.catchType) = (sp, ep, hp2, ct2) := List.head_eq_of_cons_eq (List.tail_eq_of_cons_eq ht2)
  have e1 : x.startPc = sp := congrArg Prod.fst hx2
  have e2 : x.endPc = ep := congrArg (fun z => z.2.1) hx2
  have e3 : x.handlerPc = hp := congrArg (fun z => z.2.2.1) hx2
  have e4 : x.catchType = ct := congrArg (fun z => z.2.2.2) hx2
  have f1 : y.startPc = sp := congrArg Prod.fst hy2
  have f2 : y.endPc = ep := congrArg (fun z => z.2.1) hy2
  have f3 : y.handlerPc = hp2 := congrArg (fun z => z.2.2.1) hy2
  have f4 : y.catchType = ct2 := congrArg (fun z => z.2.2.2) hy2
  subst e4
  subst e3
  subst f4
  subst f3
  obtain ⟨cX, cY, j1, kk1, hA⟩ := Cond.castable_spec hcast
  intro T locs cells slots g a XS hX hg hpc
  obtain ⟨cell, x1, x2, x3, x4⟩ := hX
  have hpl : e.platform.magicAccessors = ({} : Platform).magicAccessors := by rw [XS.admits.platform]
  obtain ⟨cY', dk, kt, k1, k2, k3, k4, k5, k6⟩ := mt_links hown hlink e.platform hpl
  cases kk1.symm.trans k1
  have hcX : cell.cls = cX := by
    rw [XS.warmed.alike.findClass, j1] at x4
    exact (Option.some.inj x4).symm
  subst hg
  have hW : s.WarmedH (T.vm.noted g.method.cls x.catchType (.cls cY)) := XS.warmed.noted k3 k5 k6
  obtain ⟨ks, hks⟩ : ∃ k, s.vm.classes[cX]? = some k := Vm.classAt_of_findClass j1
  obtain ⟨ks', hks', -⟩ := hW.alike.2.2 _ _ hks
  obtain ⟨kt', hkt', -⟩ := hW.alike.2.2 _ _ k4
  have hv : ((T.setTop g).pushFrame (.throwing a)).vm = T.vm := Stand.throwing_vm T g a
  have hh : ((T.setTop g).pushFrame (.throwing a)).heap = T.heap := Stand.throwing_heap T g a
  refine ⟨T.vm.noted g.method.cls x.catchType (.cls cY), ?_, hW⟩
  have hf := FindsTo.fst (e := e) (s := (T.setTop g).pushFrame (.throwing a)) (f := g) (a := a) (meth := meth) (code := c) (x := x) (y := y) (c := cY) (cell := cell) (by rw [hv]; exact XS.method') XS.code hx (mt_covers e1 e2 (by omega) (by omega)) h0 (by rw [hv]; exact XS.warmed.classLinks k2) (by rw [hh]; exact x1) (fun k z => by rw [z] at x2; cases x2) ⟨ks', by rw [hv, hcX]; exact hks'⟩ ⟨kt', by rw [hv]; exact hkt'⟩ (by rw [hv, hW.alike.assignable, hcX]; exact hA)
  rw [hv] at hf
  exact hf
/-- two handlers, and the thrown object is of the second's class, not of the first's -/
theorem mt_H.snd (hown : s.vm.findClass own = some m.cls) (ht : mt_tab c [(sp, ep, hp, ct), (sp, ep, hp2, ct2)]) (ha : sp ≤ pc) (hb : pc < ep) (h0 : ct ≠ 0) (h02 : ct2 ≠ 0) (hlink : (Cond.classLink own ct Y).before args s = true) (hlink2 : (Cond.classLink own ct2 Z).before args s = true) (hcZ : (Cond.castable X Z).before args s = true) (hN : ∀ cX cY, s.vm.findClass X = some cX → s.vm.findClass Y = some cY → s.vm.assignable cX cY = false) : mt_H p l e R s m args below meth c X pc hp2 := by
  obtain ⟨x, y, hx⟩ : ∃ x y, c.exceptionTable.toList = [x, y] := by
    have h := congrArg List.length ht
    rw [List.length_map] at h
    cases hl : c.exceptionTable.toList with
    | nil => rw [hl] at h; cases h
    | cons x t =>
      cases t with
      | nil => rw [hl] at h; cases h
      | cons y t =>
        cases t with
        | nil => exact ⟨x, y, rfl⟩
        | cons z t => rw [hl] at h; simp at h
  have ht2 := ht
  unfold mt_tab at ht2
  rw [hx] at ht2
  have hx2 : (x.startPc, x.endPc, x.handlerPc, x.catchType) = (sp, ep, hp, ct) := List.head_eq_of_cons_eq ht2
  have hy2 : (y.startPc, y.endPc, y.handlerPc, y.catchType) = (sp, ep, hp2, ct2) := List.head_eq_of_cons_eq (List.tail_eq_of_cons_eq ht2)
  have e1 : x.startPc = sp := congrArg Prod.fst hx2
  have e2 : x.endPc = ep := congrArg (fun z => z.2.1) hx2
  have e3 : x.handlerPc = hp := congrArg (fun z => z.2.2.1) hx2
  have e4 : x.catchType = ct := congrArg (fun z => z.2.2.2) hx2
  have f1 : y.startPc = sp := congrArg Prod.fst hy2
  have f2 : y.endPc = ep := congrArg (fun z => z.2.1) hy2
  have f3 : y.handlerPc = hp2 := congrArg (fun z => z.2.2.1) hy2
  have f4 : y.catchType = ct2 := congrArg (fun z => z.2.2.2) hy2
  subst e4
  subst e3
  subst f4
  subst f3
  obtain ⟨cX, cZ0, j1, -, -⟩ := Cond.castable_spec hcZ
  obtain ⟨cY, -, -, kk1, -⟩ := mt_links hown hlink ({} : Platform) rfl
  have hA : ¬ s.vm.assignable cX cY = true := fun z => by rw [hN cX cY j1 kk1] at z; cases z
  intro T locs cells slots g a XS hX hg hpc
  obtain ⟨cell, x1, x2, x3, x4⟩ := hX
  have hpl : e.platform.magicAccessors = ({} : Platform).magicAccessors := by rw [XS.admits.platform]
  obtain ⟨cY', dk, kt, k1, k2, k3, k4, k5, k6⟩ := mt_links hown hlink e.platform hpl
  cases kk1.symm.trans k1
  obtain ⟨cZ, dk2, kt2, i1, i2, i3, i4, i5, i6⟩ := mt_links hown hlink2 e.platform hpl
  obtain ⟨cX', cZ', q1, q2, q3⟩ := Cond.castable_spec hcZ
  cases j1.symm.trans q1
  cases i1.symm.trans q2
  have hcX : cell.cls = cX := by
    rw [XS.warmed.alike.findClass, j1] at x4
    exact (Option.some.inj x4).symm
  subst hg
  have hW : s.WarmedH (T.vm.noted g.method.cls x.catchType (.cls cY)) := XS.warmed.noted k3 k5 k6
  have hW2 : s.WarmedH ((T.vm.noted g.method.cls x.catchType (.cls cY)).noted g.method.cls y.catchType (.cls cZ)) := hW.noted i3 i5 i6
  obtain ⟨ks, hks⟩ : ∃ k, s.vm.classes[cX]? = some k := Vm.classAt_of_findClass j1
  obtain ⟨ks', hks', -⟩ := hW.alike.2.2 _ _ hks
  obtain ⟨kt', hkt', -⟩ := hW.alike.2.2 _ _ k4
  obtain ⟨ks2, hks2, -⟩ := hW2.alike.2.2 _ _ hks
  obtain ⟨kt2', hkt2', -⟩ := hW2.alike.2.2 _ _ i4
  have hv : ((T.setTop g).pushFrame (.throwing a)).vm = T.vm := Stand.throwing_vm T g a
  have hh : ((T.setTop g).pushFrame (.throwing a)).heap = T.heap := Stand.throwing_heap T g a
  refine ⟨_, ?_, hW2⟩
  have hf := FindsTo.snd (e := e) (s := (T.setTop g).pushFrame (.throwing a)) (f := g) (a := a) (meth := meth) (code := c) (x := x) (y := y) (c := cY) (c' := cZ) (cell := cell) (by rw [hv]; exact XS.method') XS.code hx (mt_covers e1 e2 (by omega) (by omega)) h0 (by rw [hv]; exact XS.warmed.classLinks k2) (by rw [hh]; exact x1) (fun k z => by rw [z] at x2; cases x2) ⟨ks', by rw [hv, hcX]; exact hks'⟩ ⟨kt', by rw [hv]; exact hkt'⟩ (by rw [hv, hW.alike.assignable, hcX]; exact hA) (mt_covers f1 f2 (by omega) (by omega)) h02 (vm1 := T.vm.noted g.method.cls x.catchType (.cls cY)) (by rw [hv]) (hW.classLinks i2) ⟨ks2, by rw [hcX]; exact hks2⟩ ⟨kt2', hkt2'⟩ (by rw [hW2.alike.assignable, hcX]; exact q3)
  exact hf
end MTD2
/-- the reference's cells stay -/
def GOf (σ τ : mv_H) : Prop := ∀ o, 70 ≤ o → o ≤ 141 → mv_i τ o = mv_i σ o ∧ mv_l τ o = mv_l σ o ∧ mv_r τ o = mv_r σ o ∧ mv_a τ o = mv_a σ o ∧ mv_b τ o = mv_b σ o
/-- and INPUT's bytes -/
def GOb (σ τ : mv_H) : Prop := GOf σ τ ∧ mv_a τ 1 = mv_a σ 1
/-- and the programs -/
def GO (σ τ : mv_H) : Prop := GOb σ τ ∧ GPr σ τ
/-- what end answers by the law's small method -/
def EN (n : Int32) (k : Nat) (v : Int32) (σ : mv_H) : Prop := ((n.toInt < 0 ∨ (k : Int) < n.toInt) ∧ v = 1) ∨ (¬ (n.toInt < 0 ∨ (k : Int) < n.toInt) ∧ v = 0 ∧ mv_b σ 142 0 = Int64.ofInt ((k - n.toInt.toNat : Nat) : Int))
theorem en_out {σ : mv_H} {v : Int32} {x : Nat} (h : v.toInt = (x : Int)) (hx : x ≤ 32768) : mv_b (mv_sb σ 142 (0 : Int32).toNatClampNeg v.toInt64) 142 0 = Int64.ofInt (x : Int) := by
  show mv_u (mv_b σ) 142 0 v.toInt64 142 0 = _
  rw [mv_u_same]
  apply Int64.toInt_inj.mp
  rw [Int32.toInt_toInt64, h, Int64.toInt_ofInt_of_le (by omega) (by omega)]
/-- the running program's tables stay -/
def KS (σ τ : mv_H) : Prop := ∀ P, mv_r σ 64 0 = some P → mv_r τ 64 0 = some P ∧ (∀ s, SPq P s σ → SPq P s τ) ∧ (P = 32 ∨ P = 48 ∨ P = 145) ∧ mv_i τ P = mv_i σ P ∧ ∀ j, j ≤ 15 → mv_a τ (P + j) = mv_a σ (P + j) ∧ mv_b τ (P + j) = mv_b σ (P + j)
/-- the shipped program's codes stay -/
def HKq (σ τ : mv_H) : Prop := ∀ o, 145 ≤ o → o ≤ 160 → mv_i τ o = mv_i σ o ∧ mv_a τ o = mv_a σ o ∧ mv_b τ o = mv_b σ o
def KH (σ τ : mv_H) (v : Int32) : Prop := (v = 1 → KS σ τ) ∧ HKq σ τ
theorem KS.of {ext : mv_Sh} {P R M k k' T : Nat} {σ τ : mv_H} (hC : LC ext σ P R M k) (hC2 : LC ext τ P R M k') (g : GP2 T σ τ) (h : (P = 32 ∧ T = 48) ∨ (P = 48 ∧ T = 32) ∨ (P = 145 ∧ T = 32)) : KS σ τ := fun P' e => by
  have e1 := hC.2.2.1.2.2
  rw [e1] at e
  cases e
  exact ⟨hC2.2.2.1.2.2, fun s q => q.fr (fun k _ => by rw [(g P (by omega)).1]) (fun o k ho _ => by rw [(g o (by omega)).2.2]) (fun o k ho _ => by rw [(g o (by omega)).2.1]) (fun k _ => by rw [(g (P + 8) (by omega)).2.1]), by omega, (g P (by omega)).1, fun j _ => ⟨(g (P + j) (by omega)).2.1, (g (P + j) (by omega)).2.2⟩⟩
theorem HKq.of {T : Nat} {σ τ : mv_H} (g : GP2 T σ τ) : HKq σ τ := fun o a b => g o (by omega)
theorem HKq.sb {σ τ : mv_H} {k : Nat} {v : Int64} (h : HKq σ τ) : HKq σ (mv_sb τ 142 k v) := fun o a b => ⟨(h o a b).1, (h o a b).2.1, (show mv_u (mv_b τ) 142 k v o = mv_b τ o from mv_u_o _ _ (by omega)).trans (h o a b).2.2⟩
/-- what build answers by the law's small method -/
def BW (X : TX) (v : Int32) (σ : mv_H) : Prop := (v = 1 ∧ sOK X = none) ∨ (v = 0 ∧ ∃ s, sOK X = some s ∧ mv_b σ 142 0 = (nI s.ops.length).toInt64 ∧ ∃ T, (T = 32 ∨ T = 48) ∧ mv_r σ 64 0 = some T ∧ SPq T s σ ∧ TreeOK T 512 σ)
/-- what build leaves of the machine -/
def BLq (X : TX) (σ : mv_H) (v : Int32) (τ : mv_H) : Prop := (v = 1 → MKp σ τ) ∧ (v = 0 → ∀ T, mv_r τ 64 0 = some T → KFn X T τ ∧ LDz T σ τ)
theorem KFn.sb {X : TX} {T : Nat} {σ : mv_H} {k : Nat} {v : Int64} (hT : T = 32 ∨ T = 48) (h : KFn X T σ) : KFn X T (mv_sb σ 142 k v) := h.fr (fun _ _ => rfl) (fun _ _ _ _ => rfl) (fun _ _ => rfl) (fun _ _ => rfl) (fun k _ => congrFun (mv_u_o _ _ (by omega)) k)
theorem bw_out {σ : mv_H} {v w : Int32} (h : v = w) : mv_b (mv_sb σ 142 (0 : Int32).toNatClampNeg v.toInt64) 142 0 = w.toInt64 := by
  subst h
  show mv_u (mv_b σ) 142 0 v.toInt64 142 0 = _
  rw [mv_u_same]
theorem GO.rf {σ : mv_H} : GO σ σ := ⟨⟨fun _ _ _ => ⟨rfl, rfl, rfl, rfl, rfl⟩, rfl⟩, GPr.rf⟩
theorem GFf.go {σ τ : mv_H} (h : GFf σ τ) : GOf σ τ := fun o a b => h o a (by omega)
theorem GF.go {σ τ : mv_H} (h : GF σ τ) : GOb σ τ := ⟨h.1.go, h.2⟩
theorem GOf.sb {σ τ : mv_H} {k : Nat} {v : Int64} (h : GOf σ τ) : GOf σ (mv_sb τ 142 k v) := fun o a b => by
  obtain ⟨h1, h2, h3, h4, h5⟩ := h o a b
  exact ⟨h1, h2, h3, h4, (mv_u_o _ _ (by omega)).trans h5⟩
theorem GOb.sb {σ τ : mv_H} {k : Nat} {v : Int64} (h : GOb σ τ) : GOb σ (mv_sb τ 142 k v) := ⟨h.1.sb, h.2⟩
theorem GO.sb {σ τ : mv_H} {k : Nat} {v : Int64} (h : GO σ τ) : GO σ (mv_sb τ 142 k v) := ⟨h.1.sb, h.2.sb⟩
/-- a call of the class that only looks -/
def GL (σ τ : mv_H) : Prop := GO σ τ ∧ MKp σ τ
theorem GL.rf {σ : mv_H} : GL σ σ := ⟨GO.rf, MKp.rf⟩
theorem GL.sb {σ τ : mv_H} {k : Nat} {v : Int64} (h : GL σ τ) : GL σ (mv_sb τ 142 k v) := ⟨h.1.sb, h.2.sb⟩
theorem sb65 {τ : mv_H} {k : Nat} {x : Int64} : mv_b (mv_sb τ 142 k x) 65 = mv_b τ 65 := (show mv_u (mv_b τ) 142 k x 65 = mv_b τ 65 from mv_u_o _ _ (by omega))
theorem pk_out {σ : mv_H} {v : Int64} {x : Nat} (h : v = mv_b σ 65 x) : mv_b (mv_sb σ 142 (0 : Int32).toNatClampNeg v) 142 0 = mv_b (mv_sb σ 142 (0 : Int32).toNatClampNeg v) 65 x := by
  rw [sb65]
  show mv_u (mv_b σ) 142 0 v 142 0 = _
  rw [mv_u_same]
  exact h
theorem VLr.sb {r : SI × LZ × List DnS} {R : Nat → Nat → Int64} {τ : mv_H} {k : Nat} {x : Int64} (h : VLr r τ R) : VLr r (mv_sb τ 142 k x) R := fun t i ht hi => by
  rw [sb65]
  exact h t i ht hi
theorem RNr.sb {r : SI × LZ × List DnS} {N : Nat} {R : Nat → Nat → Int64} {σ τ : mv_H} {v : Int32} {k : Nat} {x : Int64} (h : RNr r N R σ τ v) : RNr r N R σ (mv_sb τ 142 k x) v := ⟨h.1, h.2.1, h.2.2.1.sb, h.2.2.2⟩
theorem LC.sb {ext : mv_Sh} {P R M n k : Nat} {σ : mv_H} {v : Int64} (h : LC ext σ P R M n) : LC ext (mv_sb σ 142 k v) P R M n :=
  h.fF (pi := fun _ _ => False) (pa := fun _ => False) (pb := fun o => o = 142) (Fr.rf.sb rfl) id id id id (by omega) (fun _ => id) id id (fun _ _ _ => id) (fun _ _ _ _ _ => id) (fun P j q _ z => by have := q.b; omega)

theorem fe_out {σ : mv_H} {v : Int32} {k : Nat} (h : v.toInt = ((k + 4 + 4 + 4 + 4 + 4 : Nat) : Int)) (hk : k + 20 ≤ 32768) : mv_b (mv_sb σ 142 (0 : Int32).toNatClampNeg v.toInt64) 142 0 = Int64.ofInt ((k + 20 : Nat) : Int) := by
  show mv_u (mv_b σ) 142 0 v.toInt64 142 0 = _
  rw [mv_u_same]
  apply Int64.toInt_inj.mp
  rw [Int32.toInt_toInt64, h, Int64.toInt_ofInt_of_le (by omega) (by omega)]
theorem fl_out {σ : mv_H} {v : Int64} : mv_b (mv_sb σ 142 (0 : Int32).toNatClampNeg v) 142 0 = v := by
  show mv_u (mv_b σ) 142 0 v 142 0 = _
  rw [mv_u_same]
def y_Law_feed : MethodName := ⟨"MachineLoomLaw", "feed", "(LMachineLoom;IIIII[J)I"⟩
abbrev b_Law_feed : ByteArray := method_3_code
theorem kc_Law_feed : Cond.codeWith y_Law_feed b_Law_feed 8 (Option.some Jvm.ClassFile.FieldType.int) [((0 : Nat), (16 : Nat), (19 : Nat), (13 : Nat))] ∈ ma := ma_of (tb_7 _ (List.mem_of_getElem? (i := 225) rfl)) rfl
theorem k_1667 : (Jvm.Cond.methodLink "MachineLoomLaw" (7 : Nat) ({ cls := "MachineLoom", name := "feed", desc := "(IIIII)I" } : Jvm.MethodName)) ∈ ma := ma_of (tb_7 _ (List.mem_of_getElem? (i := 227) rfl)) rfl
theorem k_1668 : (Jvm.Cond.instanceMethod ({ cls := "MachineLoom", name := "feed", desc := "(IIIII)I" } : Jvm.MethodName)) ∈ ma := ma_of (tb_7 _ (List.mem_of_getElem? (i := 228) rfl)) rfl
theorem k_1669 : (Jvm.Cond.selects "MachineLoom" ({ cls := "MachineLoom", name := "feed", desc := "(IIIII)I" } : Jvm.MethodName) ({ cls := "MachineLoom", name := "feed", desc := "(IIIII)I" } : Jvm.MethodName)) ∈ ma := ma_of (tb_7 _ (List.mem_of_getElem? (i := 229) rfl)) rfl
theorem d_Law_feed_0 : decode b_Law_feed 0 = .ok (.aload 6, 2) := by decide +kernel
theorem d_Law_feed_2 : decode b_Law_feed 2 = .ok (.iconst 0, 1) := by decide +kernel
theorem d_Law_feed_3 : decode b_Law_feed 3 = .ok (.aload_n 0, 1) := by decide +kernel
theorem d_Law_feed_4 : decode b_Law_feed 4 = .ok (.iload_n 1, 1) := by decide +kernel
theorem d_Law_feed_5 : decode b_Law_feed 5 = .ok (.iload_n 2, 1) := by decide +kernel
theorem d_Law_feed_6 : decode b_Law_feed 6 = .ok (.iload_n 3, 1) := by decide +kernel
theorem d_Law_feed_7 : decode b_Law_feed 7 = .ok (.iload 4, 2) := by decide +kernel
theorem d_Law_feed_9 : decode b_Law_feed 9 = .ok (.iload 5, 2) := by decide +kernel
theorem d_Law_feed_11 : decode b_Law_feed 11 = .ok (.invokevirtual 7, 3) := by decide +kernel
theorem d_Law_feed_14 : decode b_Law_feed 14 = .ok (.i2l, 1) := by decide +kernel
theorem d_Law_feed_15 : decode b_Law_feed 15 = .ok (.lastore, 1) := by decide +kernel
theorem d_Law_feed_16 : decode b_Law_feed 16 = .ok (.goto (7), 3) := by decide +kernel
theorem d_Law_feed_23 : decode b_Law_feed 23 = .ok (.iconst 0, 1) := by decide +kernel
theorem d_Law_feed_24 : decode b_Law_feed 24 = .ok (.ireturn, 1) := by decide +kernel
set_option maxHeartbeats 4000000 in
set_option maxRecDepth 100000 in
theorem c_Law_feed (l : Launch) {dA : FieldType → ClassId} {D : va_G} {al : Nat → Nat} {ext : mv_Sh} {sk sv : Nat → Nat} (hi : mv_inj (mg dA D al ext)) (σ : mv_H) (hlt : l.stackTraces = false) (a9 b9 c9 d9 e9 : Int32) (P9 R9 M9 k9 : Nat) (hC : LC ext σ P9 R9 M9 k9) (hk : k9 + 20 ≤ 32768) : mv_C l y_Law_feed (Cond.codeWith y_Law_feed b_Law_feed 8 (Option.some Jvm.ClassFile.FieldType.int) [((0 : Nat), (16 : Nat), (19 : Nat), (13 : Nat))] :: ma) ({ frames := 2, cells := 0, slots := 0, locals := 47 }) (mg dA D al ext) (mKt sk sv) [.ref (al 0), .int a9, .int b9, .int c9, .int d9, .int e9, .ref (al 142)] σ (mv_Ri (fun v σ1 => v = 0 ∧ LC ext σ1 P9 R9 M9 (k9 + 20) ∧ (GOf σ σ1 ∧ FE σ σ1 k9 20 (fb a9 b9 c9 d9 e9) ∧ GPr σ σ1 ∧ MKp σ σ1) ∧ mv_b σ1 142 0 = Int64.ofInt ((k9 + 20 : Nat) : Int))) := by
  refine mv_C.ofVW (cc := b_Law_feed) (nL := 8) (ret := (Option.some Jvm.ClassFile.FieldType.int)) (hh := [((0 : Nat), (16 : Nat), (19 : Nat), (13 : Nat))]) (by decide +kernel) rfl hi (Nat.le_of_ble_eq_true rfl) ?_
  intro p e s m below meth c B hNs hr hnm htab
  refine mv_aload (pc := 0) B d_Law_feed_0 6 rfl ?_
  refine mv_iconst (pc := 2) (v := 0) B d_Law_feed_2 (by decide) ?_
  refine mv_aload_n (pc := 3) B d_Law_feed_3 rfl 0 rfl ?_
  refine mv_iload_n (pc := 4) B d_Law_feed_4 rfl 1 rfl ?_
  refine mv_iload_n (pc := 5) B d_Law_feed_5 rfl 2 rfl ?_
  refine mv_iload_n (pc := 6) B d_Law_feed_6 rfl 3 rfl ?_
  refine mv_iload (pc := 7) B d_Law_feed_7 4 rfl ?_
  refine mv_iload (pc := 9) B d_Law_feed_9 5 rfl ?_
  refine mv_callVC (pc := 11) (n := 5) (ci := 0) (C := R_Loom) (o := 0) B (mKt_ok sk sv) hNs rfl rfl (c_kg_Loom_feed l hi _ hlt _ _ _ _ _ P9 R9 M9 k9 hC hk) rfl (ma_goodc kc_Loom_feed) (B.2.2.2.1 _ k_1667) (B.2.2.2.1 _ k_1668) (B.2.2.2.1 _ k_1669) (B.2.2.2.1 _ k_1) ⟨by decide +kernel, by decide +kernel, by decide +kernel⟩ rfl d_Law_feed_11 rfl (Nat.le_of_ble_eq_true rfl) ⟨by decide, by decide⟩ ⟨by decide, by decide⟩ (fun x9 τ9 h9 => ?_) (fun v9 τ9 h9 => ?_)
  · skip
    exact absurd h9 (by rintro ⟨_, h9, _⟩; cases h9)
  obtain ⟨v8, h8, hv, hC2, hG, hE, hGP, hMK⟩ := h9
  cases h8
  refine mv_i2l (pc := 14) B d_Law_feed_14 ?_
  refine mv_last (pc := 15) B rfl (i32_in (by decide) (by decide)) d_Law_feed_15 ?_
  refine mv_goto (pc := 16) (tgt := 23) B d_Law_feed_16 rfl ?_
  refine mv_iconst (pc := 23) (v := 0) B d_Law_feed_23 (by decide) ?_
  exact mv_iret (pc := 24) B hr rfl d_Law_feed_24 (Nat.le_refl _) (Nat.le_refl _) ⟨_, rfl, rfl, hC2.sb, ⟨hG.go.sb, hE, hGP.sb, hMK.sb⟩, fe_out hv hk⟩
def y_Law_end : MethodName := ⟨"MachineLoomLaw", "end", "(LMachineLoom;I[J)I"⟩
abbrev b_Law_end : ByteArray := method_4_code
theorem kc_Law_end : Cond.codeWith y_Law_end b_Law_end 4 (Option.some Jvm.ClassFile.FieldType.int) [((0 : Nat), (9 : Nat), (12 : Nat), (19 : Nat))] ∈ ma := ma_of (tb_8 _ (List.mem_of_getElem? (i := 18) rfl)) rfl
theorem k_1700 : (Jvm.Cond.methodLink "MachineLoomLaw" (15 : Nat) ({ cls := "MachineLoom", name := "end", desc := "(I)I" } : Jvm.MethodName)) ∈ ma := ma_of (tb_8 _ (List.mem_of_getElem? (i := 20) rfl)) rfl
theorem k_1701 : (Jvm.Cond.instanceMethod ({ cls := "MachineLoom", name := "end", desc := "(I)I" } : Jvm.MethodName)) ∈ ma := ma_of (tb_8 _ (List.mem_of_getElem? (i := 21) rfl)) rfl
theorem k_1702 : (Jvm.Cond.selects "MachineLoom" ({ cls := "MachineLoom", name := "end", desc := "(I)I" } : Jvm.MethodName) ({ cls := "MachineLoom", name := "end", desc := "(I)I" } : Jvm.MethodName)) ∈ ma := ma_of (tb_8 _ (List.mem_of_getElem? (i := 22) rfl)) rfl
theorem k_1699 : (Jvm.Cond.classLink "MachineLoomLaw" (19 : Nat) "java/lang/IllegalArgumentException") ∈ ma := ma_of (tb_8 _ (List.mem_of_getElem? (i := 19) rfl)) rfl
theorem d_Law_end_0 : decode b_Law_end 0 = .ok (.aload_n 2, 1) := by decide +kernel
theorem d_Law_end_1 : decode b_Law_end 1 = .ok (.iconst 0, 1) := by decide +kernel
theorem d_Law_end_2 : decode b_Law_end 2 = .ok (.aload_n 0, 1) := by decide +kernel
theorem d_Law_end_3 : decode b_Law_end 3 = .ok (.iload_n 1, 1) := by decide +kernel
theorem d_Law_end_4 : decode b_Law_end 4 = .ok (.invokevirtual 15, 3) := by decide +kernel
theorem d_Law_end_7 : decode b_Law_end 7 = .ok (.i2l, 1) := by decide +kernel
theorem d_Law_end_8 : decode b_Law_end 8 = .ok (.lastore, 1) := by decide +kernel
theorem d_Law_end_9 : decode b_Law_end 9 = .ok (.goto (6), 3) := by decide +kernel
theorem d_Law_end_12 : decode b_Law_end 12 = .ok (.astore_n 3, 1) := by decide +kernel
theorem d_Law_end_13 : decode b_Law_end 13 = .ok (.iconst 1, 1) := by decide +kernel
theorem d_Law_end_14 : decode b_Law_end 14 = .ok (.ireturn, 1) := by decide +kernel
theorem d_Law_end_15 : decode b_Law_end 15 = .ok (.iconst 0, 1) := by decide +kernel
theorem d_Law_end_16 : decode b_Law_end 16 = .ok (.ireturn, 1) := by decide +kernel
set_option maxHeartbeats 4000000 in
set_option maxRecDepth 100000 in
theorem c_Law_end (l : Launch) {dA : FieldType → ClassId} {D : va_G} {al : Nat → Nat} {ext : mv_Sh} {sk sv : Nat → Nat} (hi : mv_inj (mg dA D al ext)) (σ : mv_H) (hlt : l.stackTraces = false) (n9 : Int32) (P9 R9 M9 k9 : Nat) (hC : LC ext σ P9 R9 M9 k9) : mv_C l y_Law_end (Cond.codeWith y_Law_end b_Law_end 4 (Option.some Jvm.ClassFile.FieldType.int) [((0 : Nat), (9 : Nat), (12 : Nat), (19 : Nat))] :: ma) ({ frames := 7, cells := 1, slots := 6, locals := 102 }) (mg dA D al ext) (mKt sk sv) [.ref (al 0), .int n9, .ref (al 142)] σ (mv_Ri (fun v σ1 => GL σ σ1 ∧ LC ext σ1 P9 R9 M9 (if n9.toInt < 0 ∨ (k9 : Int) < n9.toInt then k9 else k9 - n9.toInt.toNat) ∧ EN n9 k9 v σ1)) := by
  refine mv_C.ofVW (cc := b_Law_end) (nL := 4) (ret := (Option.some Jvm.ClassFile.FieldType.int)) (hh := [((0 : Nat), (9 : Nat), (12 : Nat), (19 : Nat))]) (by decide +kernel) rfl hi (Nat.le_of_ble_eq_true rfl) ?_
  intro p e s m below meth c B hNs hr hnm htab
  refine mv_aload_n (pc := 0) B d_Law_end_0 rfl 2 rfl ?_
  refine mv_iconst (pc := 1) (v := 0) B d_Law_end_1 (by decide) ?_
  refine mv_aload_n (pc := 2) B d_Law_end_2 rfl 0 rfl ?_
  refine mv_iload_n (pc := 3) B d_Law_end_3 rfl 1 rfl ?_
  refine mv_callVC (pc := 4) (n := 1) (ci := 0) (C := R_Loom) (o := 0) B (mKt_ok sk sv) hNs rfl rfl (c_kg_Loom_end l hi _ hlt _ P9 R9 M9 k9 hC) rfl (ma_goodc kc_Loom_end) (B.2.2.2.1 _ k_1700) (B.2.2.2.1 _ k_1701) (B.2.2.2.1 _ k_1702) (B.2.2.2.1 _ k_1) ⟨by decide +kernel, by decide +kernel, by decide +kernel⟩ rfl d_Law_end_4 rfl (Nat.le_of_ble_eq_true rfl) ⟨by decide, by decide⟩ ⟨by decide, by decide⟩ (fun x9 τ9 h9 => ?_) (fun v9 τ9 h9 => ?_)
  · skip
    rcases h9 with ⟨v8, h8, -⟩ | ⟨X8, a8, h8, h9⟩
    · cases h8
    cases h8
    obtain ⟨hX, hs, hn⟩ := h9
    subst hX
    subst hs
    refine ⟨12, mt_H.one (Y := "java/lang/IllegalArgumentException") B.2.2.1 htab (by decide) (by decide) (by decide) (B.2.2.2.1 _ k_1699) (mt_cast (B.2.2.2.1 _ k_955)), ?_⟩
    refine mv_astore_n (pc := 12) B d_Law_end_12 rfl (by decide) rfl ?_
    refine mv_iconst (pc := 13) (v := 1) B d_Law_end_13 (by decide) ?_
    exact mv_iret (pc := 14) B hr rfl d_Law_end_14 (Nat.le_of_ble_eq_true rfl) (Nat.le_of_ble_eq_true rfl) ⟨_, rfl, GL.rf, by rw [if_pos hn]; exact hC, Or.inl ⟨hn, rfl⟩⟩
  rcases h9 with ⟨v8, h8, h9⟩ | ⟨X8, a8, h8, -⟩
  rotate_left
  · cases h8
  cases h8
  obtain ⟨hv, q0, q1, hC2, hG, hGP, hMK⟩ := h9
  refine mv_i2l (pc := 7) B d_Law_end_7 ?_
  refine mv_last (pc := 8) B rfl (i32_in (by decide) (by decide)) d_Law_end_8 ?_
  refine mv_goto (pc := 9) (tgt := 15) B d_Law_end_9 rfl ?_
  refine mv_iconst (pc := 15) (v := 0) B d_Law_end_15 (by decide) ?_
  exact mv_iret (pc := 16) B hr rfl d_Law_end_16 (Nat.le_of_ble_eq_true rfl) (Nat.le_of_ble_eq_true rfl) ⟨_, rfl, ⟨⟨hG.go.sb, hGP.sb⟩, hMK.sb⟩, by rw [if_neg (by omega)]; exact hC2.sb, Or.inr ⟨by omega, rfl, en_out hv (by have := hC.2.1.2.1; omega)⟩⟩
def y_Law_fault : MethodName := ⟨"MachineLoomLaw", "fault", "(LMachineLoom;I[J)I"⟩
abbrev b_Law_fault : ByteArray := method_6_code
theorem kc_Law_fault : Cond.codeWith y_Law_fault b_Law_fault 4 (Option.some Jvm.ClassFile.FieldType.int) [((0 : Nat), (9 : Nat), (12 : Nat), (19 : Nat))] ∈ ma := ma_of (tb_8 _ (List.mem_of_getElem? (i := 54) rfl)) rfl
theorem k_1735 : (Jvm.Cond.methodLink "MachineLoomLaw" (27 : Nat) ({ cls := "MachineLoom", name := "fault", desc := "(I)I" } : Jvm.MethodName)) ∈ ma := ma_of (tb_8 _ (List.mem_of_getElem? (i := 55) rfl)) rfl
theorem k_1736 : (Jvm.Cond.instanceMethod ({ cls := "MachineLoom", name := "fault", desc := "(I)I" } : Jvm.MethodName)) ∈ ma := ma_of (tb_8 _ (List.mem_of_getElem? (i := 56) rfl)) rfl
theorem k_1737 : (Jvm.Cond.selects "MachineLoom" ({ cls := "MachineLoom", name := "fault", desc := "(I)I" } : Jvm.MethodName) ({ cls := "MachineLoom", name := "fault", desc := "(I)I" } : Jvm.MethodName)) ∈ ma := ma_of (tb_8 _ (List.mem_of_getElem? (i := 57) rfl)) rfl
theorem d_Law_fault_0 : decode b_Law_fault 0 = .ok (.aload_n 2, 1) := by decide +kernel
theorem d_Law_fault_1 : decode b_Law_fault 1 = .ok (.iconst 0, 1) := by decide +kernel
theorem d_Law_fault_2 : decode b_Law_fault 2 = .ok (.aload_n 0, 1) := by decide +kernel
theorem d_Law_fault_3 : decode b_Law_fault 3 = .ok (.iload_n 1, 1) := by decide +kernel
theorem d_Law_fault_4 : decode b_Law_fault 4 = .ok (.invokevirtual 27, 3) := by decide +kernel
theorem d_Law_fault_7 : decode b_Law_fault 7 = .ok (.i2l, 1) := by decide +kernel
theorem d_Law_fault_8 : decode b_Law_fault 8 = .ok (.lastore, 1) := by decide +kernel
theorem d_Law_fault_9 : decode b_Law_fault 9 = .ok (.goto (6), 3) := by decide +kernel
theorem d_Law_fault_12 : decode b_Law_fault 12 = .ok (.astore_n 3, 1) := by decide +kernel
theorem d_Law_fault_13 : decode b_Law_fault 13 = .ok (.iconst 1, 1) := by decide +kernel
theorem d_Law_fault_14 : decode b_Law_fault 14 = .ok (.ireturn, 1) := by decide +kernel
theorem d_Law_fault_15 : decode b_Law_fault 15 = .ok (.iconst 0, 1) := by decide +kernel
theorem d_Law_fault_16 : decode b_Law_fault 16 = .ok (.ireturn, 1) := by decide +kernel
set_option maxHeartbeats 4000000 in
set_option maxRecDepth 100000 in
theorem c_Law_fault (l : Launch) {dA : FieldType → ClassId} {D : va_G} {al : Nat → Nat} {ext : mv_Sh} {sk sv : Nat → Nat} (hi : mv_inj (mg dA D al ext)) (σ : mv_H) (hlt : l.stackTraces = false) (n9 : Int32) (P9 R9 M9 k9 : Nat) (hC : LC ext σ P9 R9 M9 k9) : mv_C l y_Law_fault (Cond.codeWith y_Law_fault b_Law_fault 4 (Option.some Jvm.ClassFile.FieldType.int) [((0 : Nat), (9 : Nat), (12 : Nat), (19 : Nat))] :: ma) ({ frames := 7, cells := 1, slots := 6, locals := 102 }) (mg dA D al ext) (mKt sk sv) [.ref (al 0), .int n9, .ref (al 142)] σ (mv_Ri (fun v σ1 => GL σ σ1 ∧ LC ext σ1 P9 R9 M9 k9)) := by
  refine mv_C.ofVW (cc := b_Law_fault) (nL := 4) (ret := (Option.some Jvm.ClassFile.FieldType.int)) (hh := [((0 : Nat), (9 : Nat), (12 : Nat), (19 : Nat))]) (by decide +kernel) rfl hi (Nat.le_of_ble_eq_true rfl) ?_
  intro p e s m below meth c B hNs hr hnm htab
  refine mv_aload_n (pc := 0) B d_Law_fault_0 rfl 2 rfl ?_
  refine mv_iconst (pc := 1) (v := 0) B d_Law_fault_1 (by decide) ?_
  refine mv_aload_n (pc := 2) B d_Law_fault_2 rfl 0 rfl ?_
  refine mv_iload_n (pc := 3) B d_Law_fault_3 rfl 1 rfl ?_
  refine mv_callVC (pc := 4) (n := 1) (ci := 0) (C := R_Loom) (o := 0) B (mKt_ok sk sv) hNs rfl rfl (c_Loom_fault l hi _ hlt _) rfl (ma_goodc kc_Loom_fault) (B.2.2.2.1 _ k_1735) (B.2.2.2.1 _ k_1736) (B.2.2.2.1 _ k_1737) (B.2.2.2.1 _ k_1) ⟨by decide +kernel, by decide +kernel, by decide +kernel⟩ rfl d_Law_fault_4 rfl (Nat.le_of_ble_eq_true rfl) ⟨by decide, by decide⟩ ⟨by decide, by decide⟩ (fun x9 τ9 h9 => ?_) (fun v9 τ9 h9 => ?_)
  · skip
    rcases h9 with ⟨v8, h8, -⟩ | ⟨X8, a8, h8, h9⟩
    · cases h8
    cases h8
    obtain ⟨hX, hs⟩ := h9
    subst hX
    subst hs
    refine ⟨12, mt_H.one (Y := "java/lang/IllegalArgumentException") B.2.2.1 htab (by decide) (by decide) (by decide) (B.2.2.2.1 _ k_1699) (mt_cast (B.2.2.2.1 _ k_955)), ?_⟩
    refine mv_astore_n (pc := 12) B d_Law_fault_12 rfl (by decide) rfl ?_
    refine mv_iconst (pc := 13) (v := 1) B d_Law_fault_13 (by decide) ?_
    exact mv_iret (pc := 14) B hr rfl d_Law_fault_14 (Nat.le_of_ble_eq_true rfl) (Nat.le_of_ble_eq_true rfl) ⟨_, rfl, GL.rf, hC⟩
  rcases h9 with ⟨v8, h8, h9⟩ | ⟨X8, a8, h8, -⟩
  rotate_left
  · cases h8
  cases h8
  subst h9
  refine mv_i2l (pc := 7) B d_Law_fault_7 ?_
  refine mv_last (pc := 8) B rfl (i32_in (by decide) (by decide)) d_Law_fault_8 ?_
  refine mv_goto (pc := 9) (tgt := 15) B d_Law_fault_9 rfl ?_
  refine mv_iconst (pc := 15) (v := 0) B d_Law_fault_15 (by decide) ?_
  exact mv_iret (pc := 16) B hr rfl d_Law_fault_16 (Nat.le_of_ble_eq_true rfl) (Nat.le_of_ble_eq_true rfl) ⟨_, rfl, GL.rf.sb, hC.sb⟩
def y_Law_build : MethodName := ⟨"MachineLoomLaw", "build", "(LMachineLoom;[J)I"⟩
abbrev b_Law_build : ByteArray := method_5_code
theorem kc_Law_build : Cond.codeWith y_Law_build b_Law_build 3 (Option.some Jvm.ClassFile.FieldType.int) [((0 : Nat), (8 : Nat), (11 : Nat), (25 : Nat))] ∈ ma := ma_of (tb_8 _ (List.mem_of_getElem? (i := 31) rfl)) rfl
theorem k_1713 : (Jvm.Cond.methodLink "MachineLoomLaw" (21 : Nat) ({ cls := "MachineLoom", name := "build", desc := "()I" } : Jvm.MethodName)) ∈ ma := ma_of (tb_8 _ (List.mem_of_getElem? (i := 33) rfl)) rfl
theorem k_1714 : (Jvm.Cond.instanceMethod ({ cls := "MachineLoom", name := "build", desc := "()I" } : Jvm.MethodName)) ∈ ma := ma_of (tb_8 _ (List.mem_of_getElem? (i := 34) rfl)) rfl
theorem k_1715 : (Jvm.Cond.selects "MachineLoom" ({ cls := "MachineLoom", name := "build", desc := "()I" } : Jvm.MethodName) ({ cls := "MachineLoom", name := "build", desc := "()I" } : Jvm.MethodName)) ∈ ma := ma_of (tb_8 _ (List.mem_of_getElem? (i := 35) rfl)) rfl
theorem k_1712 : (Jvm.Cond.classLink "MachineLoomLaw" (25 : Nat) "java/lang/IllegalStateException") ∈ ma := ma_of (tb_8 _ (List.mem_of_getElem? (i := 32) rfl)) rfl
theorem d_Law_build_0 : decode b_Law_build 0 = .ok (.aload_n 1, 1) := by decide +kernel
theorem d_Law_build_1 : decode b_Law_build 1 = .ok (.iconst 0, 1) := by decide +kernel
theorem d_Law_build_2 : decode b_Law_build 2 = .ok (.aload_n 0, 1) := by decide +kernel
theorem d_Law_build_3 : decode b_Law_build 3 = .ok (.invokevirtual 21, 3) := by decide +kernel
theorem d_Law_build_6 : decode b_Law_build 6 = .ok (.i2l, 1) := by decide +kernel
theorem d_Law_build_7 : decode b_Law_build 7 = .ok (.lastore, 1) := by decide +kernel
theorem d_Law_build_8 : decode b_Law_build 8 = .ok (.goto (6), 3) := by decide +kernel
theorem d_Law_build_11 : decode b_Law_build 11 = .ok (.astore_n 2, 1) := by decide +kernel
theorem d_Law_build_12 : decode b_Law_build 12 = .ok (.iconst 1, 1) := by decide +kernel
theorem d_Law_build_13 : decode b_Law_build 13 = .ok (.ireturn, 1) := by decide +kernel
theorem d_Law_build_14 : decode b_Law_build 14 = .ok (.iconst 0, 1) := by decide +kernel
theorem d_Law_build_15 : decode b_Law_build 15 = .ok (.ireturn, 1) := by decide +kernel
set_option maxHeartbeats 4000000 in
set_option maxRecDepth 100000 in
theorem c_Law_build_a (l : Launch) {dA : FieldType → ClassId} {D : va_G} {al : Nat → Nat} {ext : mv_Sh} {sk sv : Nat → Nat} (hi : mv_inj (mg dA D al ext)) (σ : mv_H) (hlt : l.stackTraces = false) (k9 : Nat) (hC : LC ext σ 32 32768 512 k9) (hk : k9 ≤ 10240) : mv_C l y_Law_build (Cond.codeWith y_Law_build b_Law_build 3 (Option.some Jvm.ClassFile.FieldType.int) [((0 : Nat), (8 : Nat), (11 : Nat), (25 : Nat))] :: ma) ({ frames := 9, cells := 1, slots := 6, locals := 223 }) (mg dA D al ext) (mKt sk sv) [.ref (al 0), .ref (al 142)] σ (mv_Ri (fun v σ1 => GOb σ σ1 ∧ (LC ext σ1 32 32768 512 0 ∨ LC ext σ1 48 32768 512 0) ∧ BW (txT (cc σ k9) k9) v σ1 ∧ KH σ σ1 v ∧ BLq (txT (cc σ k9) k9) σ v σ1)) := by
  refine mv_C.ofVW (cc := b_Law_build) (nL := 3) (ret := (Option.some Jvm.ClassFile.FieldType.int)) (hh := [((0 : Nat), (8 : Nat), (11 : Nat), (25 : Nat))]) (by decide +kernel) rfl hi (Nat.le_of_ble_eq_true rfl) ?_
  intro p e s m below meth c B hNs hr hnm htab
  refine mv_aload_n (pc := 0) B d_Law_build_0 rfl 1 rfl ?_
  refine mv_iconst (pc := 1) (v := 0) B d_Law_build_1 (by decide) ?_
  refine mv_aload_n (pc := 2) B d_Law_build_2 rfl 0 rfl ?_
  refine mv_callVC (pc := 3) (n := 0) (ci := 0) (C := R_Loom) (o := 0) B (mKt_ok sk sv) hNs rfl rfl (c_kb_Loom_build_a l hi _ hlt k9 hC hk) rfl (ma_goodc kc_Loom_build) (B.2.2.2.1 _ k_1713) (B.2.2.2.1 _ k_1714) (B.2.2.2.1 _ k_1715) (B.2.2.2.1 _ k_1) ⟨by decide +kernel, by decide +kernel, by decide +kernel⟩ rfl d_Law_build_3 rfl (Nat.le_of_ble_eq_true rfl) ⟨by decide, by decide⟩ ⟨by decide, by decide⟩ (fun x9 τ9 h9 => ?_) (fun v9 τ9 h9 => ?_)
  · skip
    rcases h9 with ⟨v8, h8, -⟩ | ⟨X8, a8, h8, h9⟩
    · cases h8
    cases h8
    obtain ⟨hX, hC2, hG, hN, hGP, hMK⟩ := h9
    subst hX
    refine ⟨11, mt_H.one (Y := "java/lang/IllegalStateException") B.2.2.1 htab (by decide) (by decide) (by decide) (B.2.2.2.1 _ k_1712) (mt_cast (B.2.2.2.1 _ k_1718)), ?_⟩
    refine mv_astore_n (pc := 11) B d_Law_build_11 rfl (by decide) rfl ?_
    refine mv_iconst (pc := 12) (v := 1) B d_Law_build_12 (by decide) ?_
    exact mv_iret (pc := 13) B hr rfl d_Law_build_13 (Nat.le_of_ble_eq_true rfl) (Nat.le_of_ble_eq_true rfl) ⟨_, rfl, hG.go, Or.inl hC2, Or.inl ⟨rfl, hN⟩, ⟨fun _ => KS.of hC hC2 hGP (by decide), HKq.of hGP⟩, fun _ => hMK, fun z => absurd z (by decide)⟩
  rcases h9 with ⟨v8, h8, h9⟩ | ⟨X8, a8, h8, -⟩
  rotate_left
  · cases h8
  cases h8
  obtain ⟨hC2, hG, s9, hN, hv, hSP, hGP, hKF, hLD⟩ := h9
  refine mv_i2l (pc := 6) B d_Law_build_6 ?_
  refine mv_last (pc := 7) B rfl (i32_in (by decide) (by decide)) d_Law_build_7 ?_
  refine mv_goto (pc := 8) (tgt := 14) B d_Law_build_8 rfl ?_
  refine mv_iconst (pc := 14) (v := 0) B d_Law_build_14 (by decide) ?_
  exact mv_iret (pc := 15) B hr rfl d_Law_build_15 (Nat.le_of_ble_eq_true rfl) (Nat.le_of_ble_eq_true rfl) ⟨_, rfl, hG.go.sb, Or.inr hC2.sb, Or.inr ⟨rfl, s9, hN, bw_out hv, _, by decide, hC2.2.2.1.2.2, hSP.1.fr (fun _ _ => rfl) (fun o k ho hk => congrFun (mv_u_o _ _ (by omega)) k) (fun _ _ _ _ => rfl) (fun _ _ => rfl), hSP.2.fr rfl (fun _ _ _ => rfl) (fun j a b => mv_u_o _ _ (by omega))⟩, ⟨fun z => absurd z (by decide), (HKq.of hGP).sb⟩, fun z => absurd z (by decide), fun _ T9 e9 => by have e9 := Option.some.inj (hC2.2.2.1.2.2.symm.trans e9); subst e9; exact ⟨KFn.sb (by decide) hKF, hLD.sb⟩⟩
set_option maxHeartbeats 4000000 in
set_option maxRecDepth 100000 in
theorem c_Law_build_b (l : Launch) {dA : FieldType → ClassId} {D : va_G} {al : Nat → Nat} {ext : mv_Sh} {sk sv : Nat → Nat} (hi : mv_inj (mg dA D al ext)) (σ : mv_H) (hlt : l.stackTraces = false) (k9 : Nat) (hC : LC ext σ 48 32768 512 k9) (hk : k9 ≤ 10240) : mv_C l y_Law_build (Cond.codeWith y_Law_build b_Law_build 3 (Option.some Jvm.ClassFile.FieldType.int) [((0 : Nat), (8 : Nat), (11 : Nat), (25 : Nat))] :: ma) ({ frames := 9, cells := 1, slots := 6, locals := 223 }) (mg dA D al ext) (mKt sk sv) [.ref (al 0), .ref (al 142)] σ (mv_Ri (fun v σ1 => GOb σ σ1 ∧ (LC ext σ1 48 32768 512 0 ∨ LC ext σ1 32 32768 512 0) ∧ BW (txT (cc σ k9) k9) v σ1 ∧ KH σ σ1 v ∧ BLq (txT (cc σ k9) k9) σ v σ1)) := by
  refine mv_C.ofVW (cc := b_Law_build) (nL := 3) (ret := (Option.some Jvm.ClassFile.FieldType.int)) (hh := [((0 : Nat), (8 : Nat), (11 : Nat), (25 : Nat))]) (by decide +kernel) rfl hi (Nat.le_of_ble_eq_true rfl) ?_
  intro p e s m below meth c B hNs hr hnm htab
  refine mv_aload_n (pc := 0) B d_Law_build_0 rfl 1 rfl ?_
  refine mv_iconst (pc := 1) (v := 0) B d_Law_build_1 (by decide) ?_
  refine mv_aload_n (pc := 2) B d_Law_build_2 rfl 0 rfl ?_
  refine mv_callVC (pc := 3) (n := 0) (ci := 0) (C := R_Loom) (o := 0) B (mKt_ok sk sv) hNs rfl rfl (c_kb_Loom_build_b l hi _ hlt k9 hC hk) rfl (ma_goodc kc_Loom_build) (B.2.2.2.1 _ k_1713) (B.2.2.2.1 _ k_1714) (B.2.2.2.1 _ k_1715) (B.2.2.2.1 _ k_1) ⟨by decide +kernel, by decide +kernel, by decide +kernel⟩ rfl d_Law_build_3 rfl (Nat.le_of_ble_eq_true rfl) ⟨by decide, by decide⟩ ⟨by decide, by decide⟩ (fun x9 τ9 h9 => ?_) (fun v9 τ9 h9 => ?_)
  · skip
    rcases h9 with ⟨v8, h8, -⟩ | ⟨X8, a8, h8, h9⟩
    · cases h8
    cases h8
    obtain ⟨hX, hC2, hG, hN, hGP, hMK⟩ := h9
    subst hX
    refine ⟨11, mt_H.one (Y := "java/lang/IllegalStateException") B.2.2.1 htab (by decide) (by decide) (by decide) (B.2.2.2.1 _ k_1712) (mt_cast (B.2.2.2.1 _ k_1718)), ?_⟩
    refine mv_astore_n (pc := 11) B d_Law_build_11 rfl (by decide) rfl ?_
    refine mv_iconst (pc := 12) (v := 1) B d_Law_build_12 (by decide) ?_
    exact mv_iret (pc := 13) B hr rfl d_Law_build_13 (Nat.le_of_ble_eq_true rfl) (Nat.le_of_ble_eq_true rfl) ⟨_, rfl, hG.go, Or.inl hC2, Or.inl ⟨rfl, hN⟩, ⟨fun _ => KS.of hC hC2 hGP (by decide), HKq.of hGP⟩, fun _ => hMK, fun z => absurd z (by decide)⟩
  rcases h9 with ⟨v8, h8, h9⟩ | ⟨X8, a8, h8, -⟩
  rotate_left
  · cases h8
  cases h8
  obtain ⟨hC2, hG, s9, hN, hv, hSP, hGP, hKF, hLD⟩ := h9
  refine mv_i2l (pc := 6) B d_Law_build_6 ?_
  refine mv_last (pc := 7) B rfl (i32_in (by decide) (by decide)) d_Law_build_7 ?_
  refine mv_goto (pc := 8) (tgt := 14) B d_Law_build_8 rfl ?_
  refine mv_iconst (pc := 14) (v := 0) B d_Law_build_14 (by decide) ?_
  exact mv_iret (pc := 15) B hr rfl d_Law_build_15 (Nat.le_of_ble_eq_true rfl) (Nat.le_of_ble_eq_true rfl) ⟨_, rfl, hG.go.sb, Or.inr hC2.sb, Or.inr ⟨rfl, s9, hN, bw_out hv, _, by decide, hC2.2.2.1.2.2, hSP.1.fr (fun _ _ => rfl) (fun o k ho hk => congrFun (mv_u_o _ _ (by omega)) k) (fun _ _ _ _ => rfl) (fun _ _ => rfl), hSP.2.fr rfl (fun _ _ _ => rfl) (fun j a b => mv_u_o _ _ (by omega))⟩, ⟨fun z => absurd z (by decide), (HKq.of hGP).sb⟩, fun z => absurd z (by decide), fun _ T9 e9 => by have e9 := Option.some.inj (hC2.2.2.1.2.2.symm.trans e9); subst e9; exact ⟨KFn.sb (by decide) hKF, hLD.sb⟩⟩
set_option maxHeartbeats 4000000 in
set_option maxRecDepth 100000 in
theorem c_Law_build_c (l : Launch) {dA : FieldType → ClassId} {D : va_G} {al : Nat → Nat} {sk sv : Nat → Nat} (hi : mv_inj (mg dA D al me)) (σ : mv_H) (hlt : l.stackTraces = false) (k9 : Nat) (hC : LC me σ 145 8192 48 k9) (hk : k9 ≤ 10240) : mv_C l y_Law_build (Cond.codeWith y_Law_build b_Law_build 3 (Option.some Jvm.ClassFile.FieldType.int) [((0 : Nat), (8 : Nat), (11 : Nat), (25 : Nat))] :: ma) ({ frames := 9, cells := 1, slots := 6, locals := 223 }) (mg dA D al me) (mKt sk sv) [.ref (al 0), .ref (al 142)] σ (mv_Ri (fun v σ1 => GOb σ σ1 ∧ (LC me σ1 145 8192 48 0 ∨ LC me σ1 32 32768 512 0) ∧ BW (txT (cc σ k9) k9) v σ1 ∧ KH σ σ1 v ∧ BLq (txT (cc σ k9) k9) σ v σ1)) := by
  refine mv_C.ofVW (cc := b_Law_build) (nL := 3) (ret := (Option.some Jvm.ClassFile.FieldType.int)) (hh := [((0 : Nat), (8 : Nat), (11 : Nat), (25 : Nat))]) (by decide +kernel) rfl hi (Nat.le_of_ble_eq_true rfl) ?_
  intro p e s m below meth c B hNs hr hnm htab
  refine mv_aload_n (pc := 0) B d_Law_build_0 rfl 1 rfl ?_
  refine mv_iconst (pc := 1) (v := 0) B d_Law_build_1 (by decide) ?_
  refine mv_aload_n (pc := 2) B d_Law_build_2 rfl 0 rfl ?_
  refine mv_callVC (pc := 3) (n := 0) (ci := 0) (C := R_Loom) (o := 0) B (mKt_ok sk sv) hNs rfl rfl (c_kb_Loom_build_c l hi _ hlt k9 hC hk) rfl (ma_goodc kc_Loom_build) (B.2.2.2.1 _ k_1713) (B.2.2.2.1 _ k_1714) (B.2.2.2.1 _ k_1715) (B.2.2.2.1 _ k_1) ⟨by decide +kernel, by decide +kernel, by decide +kernel⟩ rfl d_Law_build_3 rfl (Nat.le_of_ble_eq_true rfl) ⟨by decide, by decide⟩ ⟨by decide, by decide⟩ (fun x9 τ9 h9 => ?_) (fun v9 τ9 h9 => ?_)
  · skip
    rcases h9 with ⟨v8, h8, -⟩ | ⟨X8, a8, h8, h9⟩
    · cases h8
    cases h8
    obtain ⟨hX, hC2, hG, hN, hGP, hMK⟩ := h9
    subst hX
    refine ⟨11, mt_H.one (Y := "java/lang/IllegalStateException") B.2.2.1 htab (by decide) (by decide) (by decide) (B.2.2.2.1 _ k_1712) (mt_cast (B.2.2.2.1 _ k_1718)), ?_⟩
    refine mv_astore_n (pc := 11) B d_Law_build_11 rfl (by decide) rfl ?_
    refine mv_iconst (pc := 12) (v := 1) B d_Law_build_12 (by decide) ?_
    exact mv_iret (pc := 13) B hr rfl d_Law_build_13 (Nat.le_of_ble_eq_true rfl) (Nat.le_of_ble_eq_true rfl) ⟨_, rfl, hG.go, Or.inl hC2, Or.inl ⟨rfl, hN⟩, ⟨fun _ => KS.of hC hC2 hGP (by decide), HKq.of hGP⟩, fun _ => hMK, fun z => absurd z (by decide)⟩
  rcases h9 with ⟨v8, h8, h9⟩ | ⟨X8, a8, h8, -⟩
  rotate_left
  · cases h8
  cases h8
  obtain ⟨hC2, hG, s9, hN, hv, hSP, hGP, hKF, hLD⟩ := h9
  refine mv_i2l (pc := 6) B d_Law_build_6 ?_
  refine mv_last (pc := 7) B rfl (i32_in (by decide) (by decide)) d_Law_build_7 ?_
  refine mv_goto (pc := 8) (tgt := 14) B d_Law_build_8 rfl ?_
  refine mv_iconst (pc := 14) (v := 0) B d_Law_build_14 (by decide) ?_
  exact mv_iret (pc := 15) B hr rfl d_Law_build_15 (Nat.le_of_ble_eq_true rfl) (Nat.le_of_ble_eq_true rfl) ⟨_, rfl, hG.go.sb, Or.inr hC2.sb, Or.inr ⟨rfl, s9, hN, bw_out hv, _, by decide, hC2.2.2.1.2.2, hSP.1.fr (fun _ _ => rfl) (fun o k ho hk => congrFun (mv_u_o _ _ (by omega)) k) (fun _ _ _ _ => rfl) (fun _ _ => rfl), hSP.2.fr rfl (fun _ _ _ => rfl) (fun j a b => mv_u_o _ _ (by omega))⟩, ⟨fun z => absurd z (by decide), (HKq.of hGP).sb⟩, fun z => absurd z (by decide), fun _ T9 e9 => by have e9 := Option.some.inj (hC2.2.2.1.2.2.symm.trans e9); subst e9; exact ⟨KFn.sb (by decide) hKF, hLD.sb⟩⟩
def y_Law_field : MethodName := ⟨"MachineLoomLaw", "field", "(LMachineLoom;IIJ[J)I"⟩
abbrev b_Law_field : ByteArray := method_7_code
theorem kc_Law_field : Cond.codeWith y_Law_field b_Law_field 7 (Option.some Jvm.ClassFile.FieldType.int) [((0 : Nat), (11 : Nat), (14 : Nat), (34 : Nat))] ∈ ma := ma_of (tb_8 _ (List.mem_of_getElem? (i := 61) rfl)) rfl
theorem k_1743 : (Jvm.Cond.methodLink "MachineLoomLaw" (30 : Nat) ({ cls := "MachineLoom", name := "field", desc := "(IIJ)J" } : Jvm.MethodName)) ∈ ma := ma_of (tb_8 _ (List.mem_of_getElem? (i := 63) rfl)) rfl
theorem k_1744 : (Jvm.Cond.instanceMethod ({ cls := "MachineLoom", name := "field", desc := "(IIJ)J" } : Jvm.MethodName)) ∈ ma := ma_of (tb_8 _ (List.mem_of_getElem? (i := 64) rfl)) rfl
theorem k_1745 : (Jvm.Cond.selects "MachineLoom" ({ cls := "MachineLoom", name := "field", desc := "(IIJ)J" } : Jvm.MethodName) ({ cls := "MachineLoom", name := "field", desc := "(IIJ)J" } : Jvm.MethodName)) ∈ ma := ma_of (tb_8 _ (List.mem_of_getElem? (i := 65) rfl)) rfl
theorem k_1742 : (Jvm.Cond.classLink "MachineLoomLaw" (34 : Nat) "java/util/NoSuchElementException") ∈ ma := ma_of (tb_8 _ (List.mem_of_getElem? (i := 62) rfl)) rfl
theorem d_Law_field_0 : decode b_Law_field 0 = .ok (.aload 5, 2) := by decide +kernel
theorem d_Law_field_2 : decode b_Law_field 2 = .ok (.iconst 0, 1) := by decide +kernel
theorem d_Law_field_3 : decode b_Law_field 3 = .ok (.aload_n 0, 1) := by decide +kernel
theorem d_Law_field_4 : decode b_Law_field 4 = .ok (.iload_n 1, 1) := by decide +kernel
theorem d_Law_field_5 : decode b_Law_field 5 = .ok (.iload_n 2, 1) := by decide +kernel
theorem d_Law_field_6 : decode b_Law_field 6 = .ok (.lload_n 3, 1) := by decide +kernel
theorem d_Law_field_7 : decode b_Law_field 7 = .ok (.invokevirtual 30, 3) := by decide +kernel
theorem d_Law_field_10 : decode b_Law_field 10 = .ok (.lastore, 1) := by decide +kernel
theorem d_Law_field_11 : decode b_Law_field 11 = .ok (.goto (7), 3) := by decide +kernel
theorem d_Law_field_14 : decode b_Law_field 14 = .ok (.astore 6, 2) := by decide +kernel
theorem d_Law_field_16 : decode b_Law_field 16 = .ok (.iconst 1, 1) := by decide +kernel
theorem d_Law_field_17 : decode b_Law_field 17 = .ok (.ireturn, 1) := by decide +kernel
theorem d_Law_field_18 : decode b_Law_field 18 = .ok (.iconst 0, 1) := by decide +kernel
theorem d_Law_field_19 : decode b_Law_field 19 = .ok (.ireturn, 1) := by decide +kernel
set_option maxHeartbeats 4000000 in
set_option maxRecDepth 100000 in
theorem c_Law_field_a (l : Launch) {dA : FieldType → ClassId} {D : va_G} {al : Nat → Nat} {ext : mv_Sh} {sk sv : Nat → Nat} (hi : mv_inj (mg dA D al ext)) (σ : mv_H) (hlt : l.stackTraces = false) (o9 c9 : Int32) (w9 : Int64) (k9 : Nat) (hC : LC ext σ 32 32768 512 k9) : mv_C l y_Law_field (Cond.codeWith y_Law_field b_Law_field 7 (Option.some Jvm.ClassFile.FieldType.int) [((0 : Nat), (11 : Nat), (14 : Nat), (34 : Nat))] :: ma) ({ frames := 7, cells := 1, slots := 6, locals := 107 }) (mg dA D al ext) (mKt sk sv) [.ref (al 0), .int o9, .int c9, .long w9, .ref (al 142)] σ (mv_Ri (fun v σ1 => GL σ σ1 ∧ LC ext σ1 32 32768 512 k9 ∧ ((v = 1 ∧ MKq 32 σ o9 c9 0) ∨ (v = 0 ∧ ∃ m, MKq 32 σ o9 c9 m ∧ ¬ m = 0 ∧ GA w9.toBitVec m.toBitVec (mv_b σ1 142 0).toBitVec)))) := by
  refine mv_C.ofVW (cc := b_Law_field) (nL := 7) (ret := (Option.some Jvm.ClassFile.FieldType.int)) (hh := [((0 : Nat), (11 : Nat), (14 : Nat), (34 : Nat))]) (by decide +kernel) rfl hi (Nat.le_of_ble_eq_true rfl) ?_
  intro p e s m below meth c B hNs hr hnm htab
  refine mv_aload (pc := 0) B d_Law_field_0 4 rfl ?_
  refine mv_iconst (pc := 2) (v := 0) B d_Law_field_2 (by decide) ?_
  refine mv_aload_n (pc := 3) B d_Law_field_3 rfl 0 rfl ?_
  refine mv_iload_n (pc := 4) B d_Law_field_4 rfl 1 rfl ?_
  refine mv_iload_n (pc := 5) B d_Law_field_5 rfl 2 rfl ?_
  refine mv_lload_n (pc := 6) B d_Law_field_6 rfl 3 rfl ?_
  refine mv_callVC (pc := 7) (n := 3) (ci := 0) (C := R_Loom) (o := 0) B (mKt_ok sk sv) hNs rfl rfl (c_kf_Loom_field_a l hi _ hlt _ _ _ k9 hC) rfl (ma_goodc kc_Loom_field) (B.2.2.2.1 _ k_1743) (B.2.2.2.1 _ k_1744) (B.2.2.2.1 _ k_1745) (B.2.2.2.1 _ k_1) ⟨by decide +kernel, by decide +kernel, by decide +kernel⟩ rfl d_Law_field_7 rfl (Nat.le_of_ble_eq_true rfl) ⟨by decide, by decide⟩ ⟨by decide, by decide⟩ (fun x9 τ9 h9 => ?_) (fun v9 τ9 h9 => ?_)
  · skip
    rcases h9 with ⟨v8, h8, -⟩ | ⟨X8, a8, h8, h9⟩
    · cases h8
    cases h8
    obtain ⟨hX, hs, m8, hk8, hz8⟩ := h9
    subst hX
    subst hs
    subst hz8
    refine ⟨14, mt_H.one (Y := "java/util/NoSuchElementException") B.2.2.1 htab (by decide) (by decide) (by decide) (B.2.2.2.1 _ k_1742) (mt_cast (B.2.2.2.1 _ k_1752)), ?_⟩
    refine mv_astore (pc := 14) B d_Law_field_14 (by decide) rfl ?_
    refine mv_iconst (pc := 16) (v := 1) B d_Law_field_16 (by decide) ?_
    exact mv_iret (pc := 17) B hr rfl d_Law_field_17 (Nat.le_of_ble_eq_true rfl) (Nat.le_of_ble_eq_true rfl) ⟨_, rfl, GL.rf, hC, Or.inl ⟨rfl, hk8⟩⟩
  rcases h9 with ⟨v8, h8, h9⟩ | ⟨X8, a8, h8, -⟩
  rotate_left
  · cases h8
  cases h8
  obtain ⟨hs, m8, hk8, hz8, hg8⟩ := h9
  subst hs
  refine mv_last (pc := 10) B rfl (i32_in (by decide) (by decide)) d_Law_field_10 ?_
  refine mv_goto (pc := 11) (tgt := 18) B d_Law_field_11 rfl ?_
  refine mv_iconst (pc := 18) (v := 0) B d_Law_field_18 (by decide) ?_
  exact mv_iret (pc := 19) B hr rfl d_Law_field_19 (Nat.le_of_ble_eq_true rfl) (Nat.le_of_ble_eq_true rfl) ⟨_, rfl, GL.rf.sb, hC.sb, Or.inr ⟨rfl, m8, hk8, hz8, by rw [fl_out]; exact hg8⟩⟩
set_option maxHeartbeats 4000000 in
set_option maxRecDepth 100000 in
theorem c_Law_field_b (l : Launch) {dA : FieldType → ClassId} {D : va_G} {al : Nat → Nat} {ext : mv_Sh} {sk sv : Nat → Nat} (hi : mv_inj (mg dA D al ext)) (σ : mv_H) (hlt : l.stackTraces = false) (o9 c9 : Int32) (w9 : Int64) (k9 : Nat) (hC : LC ext σ 48 32768 512 k9) : mv_C l y_Law_field (Cond.codeWith y_Law_field b_Law_field 7 (Option.some Jvm.ClassFile.FieldType.int) [((0 : Nat), (11 : Nat), (14 : Nat), (34 : Nat))] :: ma) ({ frames := 7, cells := 1, slots := 6, locals := 107 }) (mg dA D al ext) (mKt sk sv) [.ref (al 0), .int o9, .int c9, .long w9, .ref (al 142)] σ (mv_Ri (fun v σ1 => GL σ σ1 ∧ LC ext σ1 48 32768 512 k9 ∧ ((v = 1 ∧ MKq 48 σ o9 c9 0) ∨ (v = 0 ∧ ∃ m, MKq 48 σ o9 c9 m ∧ ¬ m = 0 ∧ GA w9.toBitVec m.toBitVec (mv_b σ1 142 0).toBitVec)))) := by
  refine mv_C.ofVW (cc := b_Law_field) (nL := 7) (ret := (Option.some Jvm.ClassFile.FieldType.int)) (hh := [((0 : Nat), (11 : Nat), (14 : Nat), (34 : Nat))]) (by decide +kernel) rfl hi (Nat.le_of_ble_eq_true rfl) ?_
  intro p e s m below meth c B hNs hr hnm htab
  refine mv_aload (pc := 0) B d_Law_field_0 4 rfl ?_
  refine mv_iconst (pc := 2) (v := 0) B d_Law_field_2 (by decide) ?_
  refine mv_aload_n (pc := 3) B d_Law_field_3 rfl 0 rfl ?_
  refine mv_iload_n (pc := 4) B d_Law_field_4 rfl 1 rfl ?_
  refine mv_iload_n (pc := 5) B d_Law_field_5 rfl 2 rfl ?_
  refine mv_lload_n (pc := 6) B d_Law_field_6 rfl 3 rfl ?_
  refine mv_callVC (pc := 7) (n := 3) (ci := 0) (C := R_Loom) (o := 0) B (mKt_ok sk sv) hNs rfl rfl (c_kf_Loom_field_b l hi _ hlt _ _ _ k9 hC) rfl (ma_goodc kc_Loom_field) (B.2.2.2.1 _ k_1743) (B.2.2.2.1 _ k_1744) (B.2.2.2.1 _ k_1745) (B.2.2.2.1 _ k_1) ⟨by decide +kernel, by decide +kernel, by decide +kernel⟩ rfl d_Law_field_7 rfl (Nat.le_of_ble_eq_true rfl) ⟨by decide, by decide⟩ ⟨by decide, by decide⟩ (fun x9 τ9 h9 => ?_) (fun v9 τ9 h9 => ?_)
  · skip
    rcases h9 with ⟨v8, h8, -⟩ | ⟨X8, a8, h8, h9⟩
    · cases h8
    cases h8
    obtain ⟨hX, hs, m8, hk8, hz8⟩ := h9
    subst hX
    subst hs
    subst hz8
    refine ⟨14, mt_H.one (Y := "java/util/NoSuchElementException") B.2.2.1 htab (by decide) (by decide) (by decide) (B.2.2.2.1 _ k_1742) (mt_cast (B.2.2.2.1 _ k_1752)), ?_⟩
    refine mv_astore (pc := 14) B d_Law_field_14 (by decide) rfl ?_
    refine mv_iconst (pc := 16) (v := 1) B d_Law_field_16 (by decide) ?_
    exact mv_iret (pc := 17) B hr rfl d_Law_field_17 (Nat.le_of_ble_eq_true rfl) (Nat.le_of_ble_eq_true rfl) ⟨_, rfl, GL.rf, hC, Or.inl ⟨rfl, hk8⟩⟩
  rcases h9 with ⟨v8, h8, h9⟩ | ⟨X8, a8, h8, -⟩
  rotate_left
  · cases h8
  cases h8
  obtain ⟨hs, m8, hk8, hz8, hg8⟩ := h9
  subst hs
  refine mv_last (pc := 10) B rfl (i32_in (by decide) (by decide)) d_Law_field_10 ?_
  refine mv_goto (pc := 11) (tgt := 18) B d_Law_field_11 rfl ?_
  refine mv_iconst (pc := 18) (v := 0) B d_Law_field_18 (by decide) ?_
  exact mv_iret (pc := 19) B hr rfl d_Law_field_19 (Nat.le_of_ble_eq_true rfl) (Nat.le_of_ble_eq_true rfl) ⟨_, rfl, GL.rf.sb, hC.sb, Or.inr ⟨rfl, m8, hk8, hz8, by rw [fl_out]; exact hg8⟩⟩
set_option maxHeartbeats 4000000 in
set_option maxRecDepth 100000 in
theorem c_Law_field_c (l : Launch) {dA : FieldType → ClassId} {D : va_G} {al : Nat → Nat} {sk sv : Nat → Nat} (hi : mv_inj (mg dA D al me)) (σ : mv_H) (hlt : l.stackTraces = false) (o9 c9 : Int32) (w9 : Int64) (k9 : Nat) (hC : LC me σ 145 8192 48 k9) : mv_C l y_Law_field (Cond.codeWith y_Law_field b_Law_field 7 (Option.some Jvm.ClassFile.FieldType.int) [((0 : Nat), (11 : Nat), (14 : Nat), (34 : Nat))] :: ma) ({ frames := 7, cells := 1, slots := 6, locals := 107 }) (mg dA D al me) (mKt sk sv) [.ref (al 0), .int o9, .int c9, .long w9, .ref (al 142)] σ (mv_Ri (fun v σ1 => GL σ σ1 ∧ LC me σ1 145 8192 48 k9 ∧ ((v = 1 ∧ MKq 145 σ o9 c9 0) ∨ (v = 0 ∧ ∃ m, MKq 145 σ o9 c9 m ∧ ¬ m = 0 ∧ GA w9.toBitVec m.toBitVec (mv_b σ1 142 0).toBitVec)))) := by
  refine mv_C.ofVW (cc := b_Law_field) (nL := 7) (ret := (Option.some Jvm.ClassFile.FieldType.int)) (hh := [((0 : Nat), (11 : Nat), (14 : Nat), (34 : Nat))]) (by decide +kernel) rfl hi (Nat.le_of_ble_eq_true rfl) ?_
  intro p e s m below meth c B hNs hr hnm htab
  refine mv_aload (pc := 0) B d_Law_field_0 4 rfl ?_
  refine mv_iconst (pc := 2) (v := 0) B d_Law_field_2 (by decide) ?_
  refine mv_aload_n (pc := 3) B d_Law_field_3 rfl 0 rfl ?_
  refine mv_iload_n (pc := 4) B d_Law_field_4 rfl 1 rfl ?_
  refine mv_iload_n (pc := 5) B d_Law_field_5 rfl 2 rfl ?_
  refine mv_lload_n (pc := 6) B d_Law_field_6 rfl 3 rfl ?_
  refine mv_callVC (pc := 7) (n := 3) (ci := 0) (C := R_Loom) (o := 0) B (mKt_ok sk sv) hNs rfl rfl (c_kf_Loom_field_c l hi _ hlt _ _ _ k9 hC) rfl (ma_goodc kc_Loom_field) (B.2.2.2.1 _ k_1743) (B.2.2.2.1 _ k_1744) (B.2.2.2.1 _ k_1745) (B.2.2.2.1 _ k_1) ⟨by decide +kernel, by decide +kernel, by decide +kernel⟩ rfl d_Law_field_7 rfl (Nat.le_of_ble_eq_true rfl) ⟨by decide, by decide⟩ ⟨by decide, by decide⟩ (fun x9 τ9 h9 => ?_) (fun v9 τ9 h9 => ?_)
  · skip
    rcases h9 with ⟨v8, h8, -⟩ | ⟨X8, a8, h8, h9⟩
    · cases h8
    cases h8
    obtain ⟨hX, hs, m8, hk8, hz8⟩ := h9
    subst hX
    subst hs
    subst hz8
    refine ⟨14, mt_H.one (Y := "java/util/NoSuchElementException") B.2.2.1 htab (by decide) (by decide) (by decide) (B.2.2.2.1 _ k_1742) (mt_cast (B.2.2.2.1 _ k_1752)), ?_⟩
    refine mv_astore (pc := 14) B d_Law_field_14 (by decide) rfl ?_
    refine mv_iconst (pc := 16) (v := 1) B d_Law_field_16 (by decide) ?_
    exact mv_iret (pc := 17) B hr rfl d_Law_field_17 (Nat.le_of_ble_eq_true rfl) (Nat.le_of_ble_eq_true rfl) ⟨_, rfl, GL.rf, hC, Or.inl ⟨rfl, hk8⟩⟩
  rcases h9 with ⟨v8, h8, h9⟩ | ⟨X8, a8, h8, -⟩
  rotate_left
  · cases h8
  cases h8
  obtain ⟨hs, m8, hk8, hz8, hg8⟩ := h9
  subst hs
  refine mv_last (pc := 10) B rfl (i32_in (by decide) (by decide)) d_Law_field_10 ?_
  refine mv_goto (pc := 11) (tgt := 18) B d_Law_field_11 rfl ?_
  refine mv_iconst (pc := 18) (v := 0) B d_Law_field_18 (by decide) ?_
  exact mv_iret (pc := 19) B hr rfl d_Law_field_19 (Nat.le_of_ble_eq_true rfl) (Nat.le_of_ble_eq_true rfl) ⟨_, rfl, GL.rf.sb, hC.sb, Or.inr ⟨rfl, m8, hk8, hz8, by rw [fl_out]; exact hg8⟩⟩
def y_Law_poke : MethodName := ⟨"MachineLoomLaw", "poke", "(LMachineLoom;IIJ)I"⟩
abbrev b_Law_poke : ByteArray := method_8_code
theorem kc_Law_poke : Cond.codeWith y_Law_poke b_Law_poke 6 (Option.some Jvm.ClassFile.FieldType.int) [((0 : Nat), (7 : Nat), (10 : Nat), (34 : Nat))] ∈ ma := ma_of (tb_8 _ (List.mem_of_getElem? (i := 89) rfl)) rfl
theorem k_1770 : (Jvm.Cond.methodLink "MachineLoomLaw" (36 : Nat) ({ cls := "MachineLoom", name := "poke", desc := "(IIJ)V" } : Jvm.MethodName)) ∈ ma := ma_of (tb_8 _ (List.mem_of_getElem? (i := 90) rfl)) rfl
theorem k_1771 : (Jvm.Cond.instanceMethod ({ cls := "MachineLoom", name := "poke", desc := "(IIJ)V" } : Jvm.MethodName)) ∈ ma := ma_of (tb_8 _ (List.mem_of_getElem? (i := 91) rfl)) rfl
theorem k_1772 : (Jvm.Cond.selects "MachineLoom" ({ cls := "MachineLoom", name := "poke", desc := "(IIJ)V" } : Jvm.MethodName) ({ cls := "MachineLoom", name := "poke", desc := "(IIJ)V" } : Jvm.MethodName)) ∈ ma := ma_of (tb_8 _ (List.mem_of_getElem? (i := 92) rfl)) rfl
theorem d_Law_poke_0 : decode b_Law_poke 0 = .ok (.aload_n 0, 1) := by decide +kernel
theorem d_Law_poke_1 : decode b_Law_poke 1 = .ok (.iload_n 1, 1) := by decide +kernel
theorem d_Law_poke_2 : decode b_Law_poke 2 = .ok (.iload_n 2, 1) := by decide +kernel
theorem d_Law_poke_3 : decode b_Law_poke 3 = .ok (.lload_n 3, 1) := by decide +kernel
theorem d_Law_poke_4 : decode b_Law_poke 4 = .ok (.invokevirtual 36, 3) := by decide +kernel
theorem d_Law_poke_7 : decode b_Law_poke 7 = .ok (.goto (7), 3) := by decide +kernel
theorem d_Law_poke_10 : decode b_Law_poke 10 = .ok (.astore 5, 2) := by decide +kernel
theorem d_Law_poke_12 : decode b_Law_poke 12 = .ok (.iconst 1, 1) := by decide +kernel
theorem d_Law_poke_13 : decode b_Law_poke 13 = .ok (.ireturn, 1) := by decide +kernel
theorem d_Law_poke_14 : decode b_Law_poke 14 = .ok (.iconst 0, 1) := by decide +kernel
theorem d_Law_poke_15 : decode b_Law_poke 15 = .ok (.ireturn, 1) := by decide +kernel
set_option maxHeartbeats 4000000 in
set_option maxRecDepth 100000 in
theorem c_Law_poke_a (l : Launch) {dA : FieldType → ClassId} {D : va_G} {al : Nat → Nat} {ext : mv_Sh} {sk sv : Nat → Nat} (hi : mv_inj (mg dA D al ext)) (σ : mv_H) (hlt : l.stackTraces = false) (t9 i9 : Int32) (w9 : Int64) (k9 : Nat) (hC : LC ext σ 32 32768 512 k9) (r9 : SI × LZ × List DnS) (R9 : Nat → Nat → Int64) (hK : KOx 32 r9 σ) (hS : SPq 32 r9.1 σ) (hV : VLr r9 σ R9) : mv_C l y_Law_poke (Cond.codeWith y_Law_poke b_Law_poke 6 (Option.some Jvm.ClassFile.FieldType.int) [((0 : Nat), (7 : Nat), (10 : Nat), (34 : Nat))] :: ma) ({ frames := 7, cells := 1, slots := 6, locals := 105 }) (mg dA D al ext) (mKt sk sv) [.ref (al 0), .int t9, .int i9, .long w9] σ (mv_Ri (fun v σ1 => GO σ σ1 ∧ LC ext σ1 32 32768 512 k9 ∧ ((v = 1 ∧ ¬ HSq (mv_i σ 32 1) (mv_a σ 34 t9.toNatClampNeg) t9 i9 ∧ σ1 = σ) ∨ (v = 0 ∧ HSq (mv_i σ 32 1) (mv_a σ 34 t9.toNatClampNeg) t9 i9 ∧ F6v σ σ1 ∧ ∃ tn n, t9 = nI tn ∧ i9 = nI n ∧ tn < r9.1.tl.length ∧ n < ncT (r9.1.tl.getD tn (0, 0, false)) ∧ VLr r9 σ1 (wrT (eW r9 0) tn n w9 R9))))) := by
  refine mv_C.ofVW (cc := b_Law_poke) (nL := 6) (ret := (Option.some Jvm.ClassFile.FieldType.int)) (hh := [((0 : Nat), (7 : Nat), (10 : Nat), (34 : Nat))]) (by decide +kernel) rfl hi (Nat.le_of_ble_eq_true rfl) ?_
  intro p e s m below meth c B hNs hr hnm htab
  refine mv_aload_n (pc := 0) B d_Law_poke_0 rfl 0 rfl ?_
  refine mv_iload_n (pc := 1) B d_Law_poke_1 rfl 1 rfl ?_
  refine mv_iload_n (pc := 2) B d_Law_poke_2 rfl 2 rfl ?_
  refine mv_lload_n (pc := 3) B d_Law_poke_3 rfl 3 rfl ?_
  refine mv_callVC (pc := 4) (n := 3) (ci := 0) (C := R_Loom) (o := 0) B (mKt_ok sk sv) hNs rfl rfl (c_kq_Loom_poke_a l hi _ hlt _ _ _ k9 hC r9 R9 hK hS hV) rfl (ma_goodc kc_Loom_poke) (B.2.2.2.1 _ k_1770) (B.2.2.2.1 _ k_1771) (B.2.2.2.1 _ k_1772) (B.2.2.2.1 _ k_1) ⟨by decide +kernel, by decide +kernel, by decide +kernel⟩ rfl d_Law_poke_4 rfl (Nat.le_of_ble_eq_true rfl) ⟨by decide, by decide⟩ ⟨by decide, by decide⟩ (fun x9 τ9 h9 => ?_) (fun v9 τ9 h9 => ?_)
  · skip
    rcases h9 with ⟨h8, -⟩ | ⟨X8, a8, h8, h9⟩
    · cases h8
    cases h8
    obtain ⟨hX, hs, hnp⟩ := h9
    subst hX
    subst hs
    refine ⟨10, mt_H.one (Y := "java/util/NoSuchElementException") B.2.2.1 htab (by decide) (by decide) (by decide) (B.2.2.2.1 _ k_1742) (mt_cast (B.2.2.2.1 _ k_1752)), ?_⟩
    refine mv_astore (pc := 10) B d_Law_poke_10 (by decide) rfl ?_
    refine mv_iconst (pc := 12) (v := 1) B d_Law_poke_12 (by decide) ?_
    exact mv_iret (pc := 13) B hr rfl d_Law_poke_13 (Nat.le_of_ble_eq_true rfl) (Nat.le_of_ble_eq_true rfl) ⟨_, rfl, GO.rf, hC, Or.inl ⟨rfl, hnp, rfl⟩⟩
  rcases h9 with ⟨h8, h9⟩ | ⟨X8, a8, h8, -⟩
  rotate_left
  · cases h8
  cases h8
  obtain ⟨hC2, hG, hGP, hye, h6v, hvl⟩ := h9
  refine mv_goto (pc := 7) (tgt := 14) B d_Law_poke_7 rfl ?_
  refine mv_iconst (pc := 14) (v := 0) B d_Law_poke_14 (by decide) ?_
  exact mv_iret (pc := 15) B hr rfl d_Law_poke_15 (Nat.le_of_ble_eq_true rfl) (Nat.le_of_ble_eq_true rfl) ⟨_, rfl, ⟨hG.go, hGP⟩, hC2, Or.inr ⟨rfl, hye, h6v, hvl⟩⟩
set_option maxHeartbeats 4000000 in
set_option maxRecDepth 100000 in
theorem c_Law_poke_b (l : Launch) {dA : FieldType → ClassId} {D : va_G} {al : Nat → Nat} {ext : mv_Sh} {sk sv : Nat → Nat} (hi : mv_inj (mg dA D al ext)) (σ : mv_H) (hlt : l.stackTraces = false) (t9 i9 : Int32) (w9 : Int64) (k9 : Nat) (hC : LC ext σ 48 32768 512 k9) (r9 : SI × LZ × List DnS) (R9 : Nat → Nat → Int64) (hK : KOx 48 r9 σ) (hS : SPq 48 r9.1 σ) (hV : VLr r9 σ R9) : mv_C l y_Law_poke (Cond.codeWith y_Law_poke b_Law_poke 6 (Option.some Jvm.ClassFile.FieldType.int) [((0 : Nat), (7 : Nat), (10 : Nat), (34 : Nat))] :: ma) ({ frames := 7, cells := 1, slots := 6, locals := 105 }) (mg dA D al ext) (mKt sk sv) [.ref (al 0), .int t9, .int i9, .long w9] σ (mv_Ri (fun v σ1 => GO σ σ1 ∧ LC ext σ1 48 32768 512 k9 ∧ ((v = 1 ∧ ¬ HSq (mv_i σ 48 1) (mv_a σ 50 t9.toNatClampNeg) t9 i9 ∧ σ1 = σ) ∨ (v = 0 ∧ HSq (mv_i σ 48 1) (mv_a σ 50 t9.toNatClampNeg) t9 i9 ∧ F6v σ σ1 ∧ ∃ tn n, t9 = nI tn ∧ i9 = nI n ∧ tn < r9.1.tl.length ∧ n < ncT (r9.1.tl.getD tn (0, 0, false)) ∧ VLr r9 σ1 (wrT (eW r9 0) tn n w9 R9))))) := by
  refine mv_C.ofVW (cc := b_Law_poke) (nL := 6) (ret := (Option.some Jvm.ClassFile.FieldType.int)) (hh := [((0 : Nat), (7 : Nat), (10 : Nat), (34 : Nat))]) (by decide +kernel) rfl hi (Nat.le_of_ble_eq_true rfl) ?_
  intro p e s m below meth c B hNs hr hnm htab
  refine mv_aload_n (pc := 0) B d_Law_poke_0 rfl 0 rfl ?_
  refine mv_iload_n (pc := 1) B d_Law_poke_1 rfl 1 rfl ?_
  refine mv_iload_n (pc := 2) B d_Law_poke_2 rfl 2 rfl ?_
  refine mv_lload_n (pc := 3) B d_Law_poke_3 rfl 3 rfl ?_
  refine mv_callVC (pc := 4) (n := 3) (ci := 0) (C := R_Loom) (o := 0) B (mKt_ok sk sv) hNs rfl rfl (c_kq_Loom_poke_b l hi _ hlt _ _ _ k9 hC r9 R9 hK hS hV) rfl (ma_goodc kc_Loom_poke) (B.2.2.2.1 _ k_1770) (B.2.2.2.1 _ k_1771) (B.2.2.2.1 _ k_1772) (B.2.2.2.1 _ k_1) ⟨by decide +kernel, by decide +kernel, by decide +kernel⟩ rfl d_Law_poke_4 rfl (Nat.le_of_ble_eq_true rfl) ⟨by decide, by decide⟩ ⟨by decide, by decide⟩ (fun x9 τ9 h9 => ?_) (fun v9 τ9 h9 => ?_)
  · skip
    rcases h9 with ⟨h8, -⟩ | ⟨X8, a8, h8, h9⟩
    · cases h8
    cases h8
    obtain ⟨hX, hs, hnp⟩ := h9
    subst hX
    subst hs
    refine ⟨10, mt_H.one (Y := "java/util/NoSuchElementException") B.2.2.1 htab (by decide) (by decide) (by decide) (B.2.2.2.1 _ k_1742) (mt_cast (B.2.2.2.1 _ k_1752)), ?_⟩
    refine mv_astore (pc := 10) B d_Law_poke_10 (by decide) rfl ?_
    refine mv_iconst (pc := 12) (v := 1) B d_Law_poke_12 (by decide) ?_
    exact mv_iret (pc := 13) B hr rfl d_Law_poke_13 (Nat.le_of_ble_eq_true rfl) (Nat.le_of_ble_eq_true rfl) ⟨_, rfl, GO.rf, hC, Or.inl ⟨rfl, hnp, rfl⟩⟩
  rcases h9 with ⟨h8, h9⟩ | ⟨X8, a8, h8, -⟩
  rotate_left
  · cases h8
  cases h8
  obtain ⟨hC2, hG, hGP, hye, h6v, hvl⟩ := h9
  refine mv_goto (pc := 7) (tgt := 14) B d_Law_poke_7 rfl ?_
  refine mv_iconst (pc := 14) (v := 0) B d_Law_poke_14 (by decide) ?_
  exact mv_iret (pc := 15) B hr rfl d_Law_poke_15 (Nat.le_of_ble_eq_true rfl) (Nat.le_of_ble_eq_true rfl) ⟨_, rfl, ⟨hG.go, hGP⟩, hC2, Or.inr ⟨rfl, hye, h6v, hvl⟩⟩
set_option maxHeartbeats 4000000 in
set_option maxRecDepth 100000 in
theorem c_Law_poke_c (l : Launch) {dA : FieldType → ClassId} {D : va_G} {al : Nat → Nat} {sk sv : Nat → Nat} (hi : mv_inj (mg dA D al me)) (σ : mv_H) (hlt : l.stackTraces = false) (t9 i9 : Int32) (w9 : Int64) (k9 : Nat) (hC : LC me σ 145 8192 48 k9) (r9 : SI × LZ × List DnS) (R9 : Nat → Nat → Int64) (hK : KOx 145 r9 σ) (hS : SPq 145 r9.1 σ) (hV : VLr r9 σ R9) : mv_C l y_Law_poke (Cond.codeWith y_Law_poke b_Law_poke 6 (Option.some Jvm.ClassFile.FieldType.int) [((0 : Nat), (7 : Nat), (10 : Nat), (34 : Nat))] :: ma) ({ frames := 7, cells := 1, slots := 6, locals := 105 }) (mg dA D al me) (mKt sk sv) [.ref (al 0), .int t9, .int i9, .long w9] σ (mv_Ri (fun v σ1 => GO σ σ1 ∧ LC me σ1 145 8192 48 k9 ∧ ((v = 1 ∧ ¬ HSq (mv_i σ 145 1) (mv_a σ 147 t9.toNatClampNeg) t9 i9 ∧ σ1 = σ) ∨ (v = 0 ∧ HSq (mv_i σ 145 1) (mv_a σ 147 t9.toNatClampNeg) t9 i9 ∧ F6v σ σ1 ∧ ∃ tn n, t9 = nI tn ∧ i9 = nI n ∧ tn < r9.1.tl.length ∧ n < ncT (r9.1.tl.getD tn (0, 0, false)) ∧ VLr r9 σ1 (wrT (eW r9 0) tn n w9 R9))))) := by
  refine mv_C.ofVW (cc := b_Law_poke) (nL := 6) (ret := (Option.some Jvm.ClassFile.FieldType.int)) (hh := [((0 : Nat), (7 : Nat), (10 : Nat), (34 : Nat))]) (by decide +kernel) rfl hi (Nat.le_of_ble_eq_true rfl) ?_
  intro p e s m below meth c B hNs hr hnm htab
  refine mv_aload_n (pc := 0) B d_Law_poke_0 rfl 0 rfl ?_
  refine mv_iload_n (pc := 1) B d_Law_poke_1 rfl 1 rfl ?_
  refine mv_iload_n (pc := 2) B d_Law_poke_2 rfl 2 rfl ?_
  refine mv_lload_n (pc := 3) B d_Law_poke_3 rfl 3 rfl ?_
  refine mv_callVC (pc := 4) (n := 3) (ci := 0) (C := R_Loom) (o := 0) B (mKt_ok sk sv) hNs rfl rfl (c_kq_Loom_poke_c l hi _ hlt _ _ _ k9 hC r9 R9 hK hS hV) rfl (ma_goodc kc_Loom_poke) (B.2.2.2.1 _ k_1770) (B.2.2.2.1 _ k_1771) (B.2.2.2.1 _ k_1772) (B.2.2.2.1 _ k_1) ⟨by decide +kernel, by decide +kernel, by decide +kernel⟩ rfl d_Law_poke_4 rfl (Nat.le_of_ble_eq_true rfl) ⟨by decide, by decide⟩ ⟨by decide, by decide⟩ (fun x9 τ9 h9 => ?_) (fun v9 τ9 h9 => ?_)
  · skip
    rcases h9 with ⟨h8, -⟩ | ⟨X8, a8, h8, h9⟩
    · cases h8
    cases h8
    obtain ⟨hX, hs, hnp⟩ := h9
    subst hX
    subst hs
    refine ⟨10, mt_H.one (Y := "java/util/NoSuchElementException") B.2.2.1 htab (by decide) (by decide) (by decide) (B.2.2.2.1 _ k_1742) (mt_cast (B.2.2.2.1 _ k_1752)), ?_⟩
    refine mv_astore (pc := 10) B d_Law_poke_10 (by decide) rfl ?_
    refine mv_iconst (pc := 12) (v := 1) B d_Law_poke_12 (by decide) ?_
    exact mv_iret (pc := 13) B hr rfl d_Law_poke_13 (Nat.le_of_ble_eq_true rfl) (Nat.le_of_ble_eq_true rfl) ⟨_, rfl, GO.rf, hC, Or.inl ⟨rfl, hnp, rfl⟩⟩
  rcases h9 with ⟨h8, h9⟩ | ⟨X8, a8, h8, -⟩
  rotate_left
  · cases h8
  cases h8
  obtain ⟨hC2, hG, hGP, hye, h6v, hvl⟩ := h9
  refine mv_goto (pc := 7) (tgt := 14) B d_Law_poke_7 rfl ?_
  refine mv_iconst (pc := 14) (v := 0) B d_Law_poke_14 (by decide) ?_
  exact mv_iret (pc := 15) B hr rfl d_Law_poke_15 (Nat.le_of_ble_eq_true rfl) (Nat.le_of_ble_eq_true rfl) ⟨_, rfl, ⟨hG.go, hGP⟩, hC2, Or.inr ⟨rfl, hye, h6v, hvl⟩⟩
def y_Law_peek : MethodName := ⟨"MachineLoomLaw", "peek", "(LMachineLoom;II[J)I"⟩
abbrev b_Law_peek : ByteArray := method_9_code
theorem kc_Law_peek : Cond.codeWith y_Law_peek b_Law_peek 5 (Option.some Jvm.ClassFile.FieldType.int) [((0 : Nat), (9 : Nat), (12 : Nat), (34 : Nat))] ∈ ma := ma_of (tb_8 _ (List.mem_of_getElem? (i := 101) rfl)) rfl
theorem k_1782 : (Jvm.Cond.methodLink "MachineLoomLaw" (40 : Nat) ({ cls := "MachineLoom", name := "peek", desc := "(II)J" } : Jvm.MethodName)) ∈ ma := ma_of (tb_8 _ (List.mem_of_getElem? (i := 102) rfl)) rfl
theorem k_1783 : (Jvm.Cond.instanceMethod ({ cls := "MachineLoom", name := "peek", desc := "(II)J" } : Jvm.MethodName)) ∈ ma := ma_of (tb_8 _ (List.mem_of_getElem? (i := 103) rfl)) rfl
theorem k_1784 : (Jvm.Cond.selects "MachineLoom" ({ cls := "MachineLoom", name := "peek", desc := "(II)J" } : Jvm.MethodName) ({ cls := "MachineLoom", name := "peek", desc := "(II)J" } : Jvm.MethodName)) ∈ ma := ma_of (tb_8 _ (List.mem_of_getElem? (i := 104) rfl)) rfl
theorem d_Law_peek_0 : decode b_Law_peek 0 = .ok (.aload_n 3, 1) := by decide +kernel
theorem d_Law_peek_1 : decode b_Law_peek 1 = .ok (.iconst 0, 1) := by decide +kernel
theorem d_Law_peek_2 : decode b_Law_peek 2 = .ok (.aload_n 0, 1) := by decide +kernel
theorem d_Law_peek_3 : decode b_Law_peek 3 = .ok (.iload_n 1, 1) := by decide +kernel
theorem d_Law_peek_4 : decode b_Law_peek 4 = .ok (.iload_n 2, 1) := by decide +kernel
theorem d_Law_peek_5 : decode b_Law_peek 5 = .ok (.invokevirtual 40, 3) := by decide +kernel
theorem d_Law_peek_8 : decode b_Law_peek 8 = .ok (.lastore, 1) := by decide +kernel
theorem d_Law_peek_9 : decode b_Law_peek 9 = .ok (.goto (7), 3) := by decide +kernel
theorem d_Law_peek_12 : decode b_Law_peek 12 = .ok (.astore 4, 2) := by decide +kernel
theorem d_Law_peek_14 : decode b_Law_peek 14 = .ok (.iconst 1, 1) := by decide +kernel
theorem d_Law_peek_15 : decode b_Law_peek 15 = .ok (.ireturn, 1) := by decide +kernel
theorem d_Law_peek_16 : decode b_Law_peek 16 = .ok (.iconst 0, 1) := by decide +kernel
theorem d_Law_peek_17 : decode b_Law_peek 17 = .ok (.ireturn, 1) := by decide +kernel
set_option maxHeartbeats 4000000 in
set_option maxRecDepth 100000 in
theorem c_Law_peek_a (l : Launch) {dA : FieldType → ClassId} {D : va_G} {al : Nat → Nat} {ext : mv_Sh} {sk sv : Nat → Nat} (hi : mv_inj (mg dA D al ext)) (σ : mv_H) (hlt : l.stackTraces = false) (t9 i9 : Int32) (k9 : Nat) (hC : LC ext σ 32 32768 512 k9) : mv_C l y_Law_peek (Cond.codeWith y_Law_peek b_Law_peek 5 (Option.some Jvm.ClassFile.FieldType.int) [((0 : Nat), (9 : Nat), (12 : Nat), (34 : Nat))] :: ma) ({ frames := 7, cells := 1, slots := 6, locals := 103 }) (mg dA D al ext) (mKt sk sv) [.ref (al 0), .int t9, .int i9, .ref (al 142)] σ (mv_Ri (fun v σ1 => GL σ σ1 ∧ LC ext σ1 32 32768 512 k9 ∧ ((v = 1 ∧ ¬ HSq (mv_i σ1 32 1) (mv_a σ1 34 t9.toNatClampNeg) t9 i9) ∨ (v = 0 ∧ HSq (mv_i σ1 32 1) (mv_a σ1 34 t9.toNatClampNeg) t9 i9 ∧ mv_b σ1 142 0 = mv_b σ1 65 ((mv_a σ1 35 t9.toNatClampNeg).toNatClampNeg + i9.toNatClampNeg))))) := by
  refine mv_C.ofVW (cc := b_Law_peek) (nL := 5) (ret := (Option.some Jvm.ClassFile.FieldType.int)) (hh := [((0 : Nat), (9 : Nat), (12 : Nat), (34 : Nat))]) (by decide +kernel) rfl hi (Nat.le_of_ble_eq_true rfl) ?_
  intro p e s m below meth c B hNs hr hnm htab
  refine mv_aload_n (pc := 0) B d_Law_peek_0 rfl 3 rfl ?_
  refine mv_iconst (pc := 1) (v := 0) B d_Law_peek_1 (by decide) ?_
  refine mv_aload_n (pc := 2) B d_Law_peek_2 rfl 0 rfl ?_
  refine mv_iload_n (pc := 3) B d_Law_peek_3 rfl 1 rfl ?_
  refine mv_iload_n (pc := 4) B d_Law_peek_4 rfl 2 rfl ?_
  refine mv_callVC (pc := 5) (n := 2) (ci := 0) (C := R_Loom) (o := 0) B (mKt_ok sk sv) hNs rfl rfl (c_kq_Loom_peek_a l hi _ hlt _ _ k9 hC) rfl (ma_goodc kc_Loom_peek) (B.2.2.2.1 _ k_1782) (B.2.2.2.1 _ k_1783) (B.2.2.2.1 _ k_1784) (B.2.2.2.1 _ k_1) ⟨by decide +kernel, by decide +kernel, by decide +kernel⟩ rfl d_Law_peek_5 rfl (Nat.le_of_ble_eq_true rfl) ⟨by decide, by decide⟩ ⟨by decide, by decide⟩ (fun x9 τ9 h9 => ?_) (fun v9 τ9 h9 => ?_)
  · skip
    rcases h9 with ⟨v8, h8, -⟩ | ⟨X8, a8, h8, h9⟩
    · cases h8
    cases h8
    obtain ⟨hX, hs, hnp⟩ := h9
    subst hX
    subst hs
    refine ⟨12, mt_H.one (Y := "java/util/NoSuchElementException") B.2.2.1 htab (by decide) (by decide) (by decide) (B.2.2.2.1 _ k_1742) (mt_cast (B.2.2.2.1 _ k_1752)), ?_⟩
    refine mv_astore (pc := 12) B d_Law_peek_12 (by decide) rfl ?_
    refine mv_iconst (pc := 14) (v := 1) B d_Law_peek_14 (by decide) ?_
    exact mv_iret (pc := 15) B hr rfl d_Law_peek_15 (Nat.le_of_ble_eq_true rfl) (Nat.le_of_ble_eq_true rfl) ⟨_, rfl, GL.rf, hC, Or.inl ⟨rfl, hnp⟩⟩
  rcases h9 with ⟨v8, h8, h9⟩ | ⟨X8, a8, h8, -⟩
  rotate_left
  · cases h8
  cases h8
  obtain ⟨hs, hye, hvl⟩ := h9
  subst hs
  refine mv_last (pc := 8) B rfl (i32_in (by decide) (by decide)) d_Law_peek_8 ?_
  refine mv_goto (pc := 9) (tgt := 16) B d_Law_peek_9 rfl ?_
  refine mv_iconst (pc := 16) (v := 0) B d_Law_peek_16 (by decide) ?_
  exact mv_iret (pc := 17) B hr rfl d_Law_peek_17 (Nat.le_of_ble_eq_true rfl) (Nat.le_of_ble_eq_true rfl) ⟨_, rfl, GL.rf.sb, hC.sb, Or.inr ⟨rfl, hye, pk_out hvl⟩⟩
set_option maxHeartbeats 4000000 in
set_option maxRecDepth 100000 in
theorem c_Law_peek_b (l : Launch) {dA : FieldType → ClassId} {D : va_G} {al : Nat → Nat} {ext : mv_Sh} {sk sv : Nat → Nat} (hi : mv_inj (mg dA D al ext)) (σ : mv_H) (hlt : l.stackTraces = false) (t9 i9 : Int32) (k9 : Nat) (hC : LC ext σ 48 32768 512 k9) : mv_C l y_Law_peek (Cond.codeWith y_Law_peek b_Law_peek 5 (Option.some Jvm.ClassFile.FieldType.int) [((0 : Nat), (9 : Nat), (12 : Nat), (34 : Nat))] :: ma) ({ frames := 7, cells := 1, slots := 6, locals := 103 }) (mg dA D al ext) (mKt sk sv) [.ref (al 0), .int t9, .int i9, .ref (al 142)] σ (mv_Ri (fun v σ1 => GL σ σ1 ∧ LC ext σ1 48 32768 512 k9 ∧ ((v = 1 ∧ ¬ HSq (mv_i σ1 48 1) (mv_a σ1 50 t9.toNatClampNeg) t9 i9) ∨ (v = 0 ∧ HSq (mv_i σ1 48 1) (mv_a σ1 50 t9.toNatClampNeg) t9 i9 ∧ mv_b σ1 142 0 = mv_b σ1 65 ((mv_a σ1 51 t9.toNatClampNeg).toNatClampNeg + i9.toNatClampNeg))))) := by
  refine mv_C.ofVW (cc := b_Law_peek) (nL := 5) (ret := (Option.some Jvm.ClassFile.FieldType.int)) (hh := [((0 : Nat), (9 : Nat), (12 : Nat), (34 : Nat))]) (by decide +kernel) rfl hi (Nat.le_of_ble_eq_true rfl) ?_
  intro p e s m below meth c B hNs hr hnm htab
  refine mv_aload_n (pc := 0) B d_Law_peek_0 rfl 3 rfl ?_
  refine mv_iconst (pc := 1) (v := 0) B d_Law_peek_1 (by decide) ?_
  refine mv_aload_n (pc := 2) B d_Law_peek_2 rfl 0 rfl ?_
  refine mv_iload_n (pc := 3) B d_Law_peek_3 rfl 1 rfl ?_
  refine mv_iload_n (pc := 4) B d_Law_peek_4 rfl 2 rfl ?_
  refine mv_callVC (pc := 5) (n := 2) (ci := 0) (C := R_Loom) (o := 0) B (mKt_ok sk sv) hNs rfl rfl (c_kq_Loom_peek_b l hi _ hlt _ _ k9 hC) rfl (ma_goodc kc_Loom_peek) (B.2.2.2.1 _ k_1782) (B.2.2.2.1 _ k_1783) (B.2.2.2.1 _ k_1784) (B.2.2.2.1 _ k_1) ⟨by decide +kernel, by decide +kernel, by decide +kernel⟩ rfl d_Law_peek_5 rfl (Nat.le_of_ble_eq_true rfl) ⟨by decide, by decide⟩ ⟨by decide, by decide⟩ (fun x9 τ9 h9 => ?_) (fun v9 τ9 h9 => ?_)
  · skip
    rcases h9 with ⟨v8, h8, -⟩ | ⟨X8, a8, h8, h9⟩
    · cases h8
    cases h8
    obtain ⟨hX, hs, hnp⟩ := h9
    subst hX
    subst hs
    refine ⟨12, mt_H.one (Y := "java/util/NoSuchElementException") B.2.2.1 htab (by decide) (by decide) (by decide) (B.2.2.2.1 _ k_1742) (mt_cast (B.2.2.2.1 _ k_1752)), ?_⟩
    refine mv_astore (pc := 12) B d_Law_peek_12 (by decide) rfl ?_
    refine mv_iconst (pc := 14) (v := 1) B d_Law_peek_14 (by decide) ?_
    exact mv_iret (pc := 15) B hr rfl d_Law_peek_15 (Nat.le_of_ble_eq_true rfl) (Nat.le_of_ble_eq_true rfl) ⟨_, rfl, GL.rf, hC, Or.inl ⟨rfl, hnp⟩⟩
  rcases h9 with ⟨v8, h8, h9⟩ | ⟨X8, a8, h8, -⟩
  rotate_left
  · cases h8
  cases h8
  obtain ⟨hs, hye, hvl⟩ := h9
  subst hs
  refine mv_last (pc := 8) B rfl (i32_in (by decide) (by decide)) d_Law_peek_8 ?_
  refine mv_goto (pc := 9) (tgt := 16) B d_Law_peek_9 rfl ?_
  refine mv_iconst (pc := 16) (v := 0) B d_Law_peek_16 (by decide) ?_
  exact mv_iret (pc := 17) B hr rfl d_Law_peek_17 (Nat.le_of_ble_eq_true rfl) (Nat.le_of_ble_eq_true rfl) ⟨_, rfl, GL.rf.sb, hC.sb, Or.inr ⟨rfl, hye, pk_out hvl⟩⟩
set_option maxHeartbeats 4000000 in
set_option maxRecDepth 100000 in
theorem c_Law_peek_c (l : Launch) {dA : FieldType → ClassId} {D : va_G} {al : Nat → Nat} {sk sv : Nat → Nat} (hi : mv_inj (mg dA D al me)) (σ : mv_H) (hlt : l.stackTraces = false) (t9 i9 : Int32) (k9 : Nat) (hC : LC me σ 145 8192 48 k9) : mv_C l y_Law_peek (Cond.codeWith y_Law_peek b_Law_peek 5 (Option.some Jvm.ClassFile.FieldType.int) [((0 : Nat), (9 : Nat), (12 : Nat), (34 : Nat))] :: ma) ({ frames := 7, cells := 1, slots := 6, locals := 103 }) (mg dA D al me) (mKt sk sv) [.ref (al 0), .int t9, .int i9, .ref (al 142)] σ (mv_Ri (fun v σ1 => GL σ σ1 ∧ LC me σ1 145 8192 48 k9 ∧ ((v = 1 ∧ ¬ HSq (mv_i σ1 145 1) (mv_a σ1 147 t9.toNatClampNeg) t9 i9) ∨ (v = 0 ∧ HSq (mv_i σ1 145 1) (mv_a σ1 147 t9.toNatClampNeg) t9 i9 ∧ mv_b σ1 142 0 = mv_b σ1 65 ((mv_a σ1 148 t9.toNatClampNeg).toNatClampNeg + i9.toNatClampNeg))))) := by
  refine mv_C.ofVW (cc := b_Law_peek) (nL := 5) (ret := (Option.some Jvm.ClassFile.FieldType.int)) (hh := [((0 : Nat), (9 : Nat), (12 : Nat), (34 : Nat))]) (by decide +kernel) rfl hi (Nat.le_of_ble_eq_true rfl) ?_
  intro p e s m below meth c B hNs hr hnm htab
  refine mv_aload_n (pc := 0) B d_Law_peek_0 rfl 3 rfl ?_
  refine mv_iconst (pc := 1) (v := 0) B d_Law_peek_1 (by decide) ?_
  refine mv_aload_n (pc := 2) B d_Law_peek_2 rfl 0 rfl ?_
  refine mv_iload_n (pc := 3) B d_Law_peek_3 rfl 1 rfl ?_
  refine mv_iload_n (pc := 4) B d_Law_peek_4 rfl 2 rfl ?_
  refine mv_callVC (pc := 5) (n := 2) (ci := 0) (C := R_Loom) (o := 0) B (mKt_ok sk sv) hNs rfl rfl (c_kq_Loom_peek_c l hi _ hlt _ _ k9 hC) rfl (ma_goodc kc_Loom_peek) (B.2.2.2.1 _ k_1782) (B.2.2.2.1 _ k_1783) (B.2.2.2.1 _ k_1784) (B.2.2.2.1 _ k_1) ⟨by decide +kernel, by decide +kernel, by decide +kernel⟩ rfl d_Law_peek_5 rfl (Nat.le_of_ble_eq_true rfl) ⟨by decide, by decide⟩ ⟨by decide, by decide⟩ (fun x9 τ9 h9 => ?_) (fun v9 τ9 h9 => ?_)
  · skip
    rcases h9 with ⟨v8, h8, -⟩ | ⟨X8, a8, h8, h9⟩
    · cases h8
    cases h8
    obtain ⟨hX, hs, hnp⟩ := h9
    subst hX
    subst hs
    refine ⟨12, mt_H.one (Y := "java/util/NoSuchElementException") B.2.2.1 htab (by decide) (by decide) (by decide) (B.2.2.2.1 _ k_1742) (mt_cast (B.2.2.2.1 _ k_1752)), ?_⟩
    refine mv_astore (pc := 12) B d_Law_peek_12 (by decide) rfl ?_
    refine mv_iconst (pc := 14) (v := 1) B d_Law_peek_14 (by decide) ?_
    exact mv_iret (pc := 15) B hr rfl d_Law_peek_15 (Nat.le_of_ble_eq_true rfl) (Nat.le_of_ble_eq_true rfl) ⟨_, rfl, GL.rf, hC, Or.inl ⟨rfl, hnp⟩⟩
  rcases h9 with ⟨v8, h8, h9⟩ | ⟨X8, a8, h8, -⟩
  rotate_left
  · cases h8
  cases h8
  obtain ⟨hs, hye, hvl⟩ := h9
  subst hs
  refine mv_last (pc := 8) B rfl (i32_in (by decide) (by decide)) d_Law_peek_8 ?_
  refine mv_goto (pc := 9) (tgt := 16) B d_Law_peek_9 rfl ?_
  refine mv_iconst (pc := 16) (v := 0) B d_Law_peek_16 (by decide) ?_
  exact mv_iret (pc := 17) B hr rfl d_Law_peek_17 (Nat.le_of_ble_eq_true rfl) (Nat.le_of_ble_eq_true rfl) ⟨_, rfl, GL.rf.sb, hC.sb, Or.inr ⟨rfl, hye, pk_out hvl⟩⟩
def y_Law_run : MethodName := ⟨"MachineLoomLaw", "run", "(LMachineLoom;I[J)I"⟩
abbrev b_Law_run : ByteArray := method_10_code
theorem kc_Law_run : Cond.codeWith y_Law_run b_Law_run 4 (Option.some Jvm.ClassFile.FieldType.int) [((0 : Nat), (9 : Nat), (12 : Nat), (19 : Nat)), ((0 : Nat), (9 : Nat), (15 : Nat), (25 : Nat))] ∈ ma := ma_of (tb_8 _ (List.mem_of_getElem? (i := 108) rfl)) rfl
theorem k_1789 : (Jvm.Cond.methodLink "MachineLoomLaw" (44 : Nat) ({ cls := "MachineLoom", name := "run", desc := "(I)I" } : Jvm.MethodName)) ∈ ma := ma_of (tb_8 _ (List.mem_of_getElem? (i := 109) rfl)) rfl
theorem k_1790 : (Jvm.Cond.instanceMethod ({ cls := "MachineLoom", name := "run", desc := "(I)I" } : Jvm.MethodName)) ∈ ma := ma_of (tb_8 _ (List.mem_of_getElem? (i := 110) rfl)) rfl
theorem k_1791 : (Jvm.Cond.selects "MachineLoom" ({ cls := "MachineLoom", name := "run", desc := "(I)I" } : Jvm.MethodName) ({ cls := "MachineLoom", name := "run", desc := "(I)I" } : Jvm.MethodName)) ∈ ma := ma_of (tb_8 _ (List.mem_of_getElem? (i := 111) rfl)) rfl
theorem d_Law_run_0 : decode b_Law_run 0 = .ok (.aload_n 2, 1) := by decide +kernel
theorem d_Law_run_1 : decode b_Law_run 1 = .ok (.iconst 0, 1) := by decide +kernel
theorem d_Law_run_2 : decode b_Law_run 2 = .ok (.aload_n 0, 1) := by decide +kernel
theorem d_Law_run_3 : decode b_Law_run 3 = .ok (.iload_n 1, 1) := by decide +kernel
theorem d_Law_run_4 : decode b_Law_run 4 = .ok (.invokevirtual 44, 3) := by decide +kernel
theorem d_Law_run_7 : decode b_Law_run 7 = .ok (.i2l, 1) := by decide +kernel
theorem d_Law_run_8 : decode b_Law_run 8 = .ok (.lastore, 1) := by decide +kernel
theorem d_Law_run_9 : decode b_Law_run 9 = .ok (.goto (9), 3) := by decide +kernel
theorem d_Law_run_12 : decode b_Law_run 12 = .ok (.astore_n 3, 1) := by decide +kernel
theorem d_Law_run_13 : decode b_Law_run 13 = .ok (.iconst 1, 1) := by decide +kernel
theorem d_Law_run_14 : decode b_Law_run 14 = .ok (.ireturn, 1) := by decide +kernel
theorem d_Law_run_15 : decode b_Law_run 15 = .ok (.astore_n 3, 1) := by decide +kernel
theorem d_Law_run_16 : decode b_Law_run 16 = .ok (.iconst 2, 1) := by decide +kernel
theorem d_Law_run_17 : decode b_Law_run 17 = .ok (.ireturn, 1) := by decide +kernel
theorem d_Law_run_18 : decode b_Law_run 18 = .ok (.iconst 0, 1) := by decide +kernel
theorem d_Law_run_19 : decode b_Law_run 19 = .ok (.ireturn, 1) := by decide +kernel
set_option maxHeartbeats 4000000 in
set_option maxRecDepth 100000 in
theorem c_Law_run_a (l : Launch) {dA : FieldType → ClassId} {D : va_G} {al : Nat → Nat} {ext : mv_Sh} {sk sv : Nat → Nat} (hi : mv_inj (mg dA D al ext)) (σ : mv_H) (hlt : l.stackTraces = false) (n9 : Int32) (k9 : Nat) (hC : LC ext σ 32 32768 512 k9) (r9 : SI × LZ × List DnS) (R9 : Nat → Nat → Int64) (hK : KOx 32 r9 σ) (hS : SPq 32 r9.1 σ) (hO : TCq 32 32768 512 r9 σ) (hV : VLr r9 σ R9) (hL9 : LIq r9) (hU : UQs r9.1) : mv_C l y_Law_run (Cond.codeWith y_Law_run b_Law_run 4 (Option.some Jvm.ClassFile.FieldType.int) [((0 : Nat), (9 : Nat), (12 : Nat), (19 : Nat)), ((0 : Nat), (9 : Nat), (15 : Nat), (25 : Nat))] :: ma) ({ frames := 8, cells := 1, slots := 6, locals := 199 }) (mg dA D al ext) (mKt sk sv) [.ref (al 0), .int n9, .ref (al 142)] σ (mv_Ri (fun v σ1 => GO σ σ1 ∧ LC ext σ1 32 32768 512 k9 ∧ ((v = 1 ∧ (n9.toInt < 1 ∨ 500 < n9.toInt) ∧ σ1 = σ) ∨ (v = 2 ∧ ¬ (n9.toInt < 1 ∨ 500 < n9.toInt) ∧ (mv_i σ 32 9).toInt < 0 ∧ σ1 = σ) ∨ (v = 0 ∧ ∃ N9, n9 = nI N9 ∧ 0 < N9 ∧ N9 ≤ 500 ∧ 0 ≤ (mv_i σ 32 9).toInt ∧ ∃ x, RNr r9 N9 R9 σ σ1 x ∧ mv_b σ1 142 0 = x.toInt64)))) := by
  refine mv_C.ofVW (cc := b_Law_run) (nL := 4) (ret := (Option.some Jvm.ClassFile.FieldType.int)) (hh := [((0 : Nat), (9 : Nat), (12 : Nat), (19 : Nat)), ((0 : Nat), (9 : Nat), (15 : Nat), (25 : Nat))]) (by decide +kernel) rfl hi (Nat.le_of_ble_eq_true rfl) ?_
  intro p e s m below meth c B hNs hr hnm htab
  refine mv_aload_n (pc := 0) B d_Law_run_0 rfl 2 rfl ?_
  refine mv_iconst (pc := 1) (v := 0) B d_Law_run_1 (by decide) ?_
  refine mv_aload_n (pc := 2) B d_Law_run_2 rfl 0 rfl ?_
  refine mv_iload_n (pc := 3) B d_Law_run_3 rfl 1 rfl ?_
  refine mv_callVC (pc := 4) (n := 1) (ci := 0) (C := R_Loom) (o := 0) B (mKt_ok sk sv) hNs rfl rfl (c_kq_Loom_run_a l hi _ hlt _ k9 hC r9 R9 hK hS hO hV hL9 hU) rfl (ma_goodc kc_Loom_run) (B.2.2.2.1 _ k_1789) (B.2.2.2.1 _ k_1790) (B.2.2.2.1 _ k_1791) (B.2.2.2.1 _ k_1) ⟨by decide +kernel, by decide +kernel, by decide +kernel⟩ rfl d_Law_run_4 rfl (Nat.le_of_ble_eq_true rfl) ⟨by decide, by decide⟩ ⟨by decide, by decide⟩ (fun x9 τ9 h9 => ?_) (fun v9 τ9 h9 => ?_)
  · skip
    rcases h9 with ⟨v8, h8, -⟩ | ⟨X8, a8, h8, h9⟩
    · cases h8
    cases h8
    obtain ⟨hs, hT⟩ := h9
    subst hs
    rcases hT with ⟨hX, hb⟩ | ⟨hX, hw, hn⟩
    · subst hX
      refine ⟨12, mt_H.fst (X := "java/lang/IllegalArgumentException") (Y := "java/lang/IllegalArgumentException") B.2.2.1 htab (by decide) (by decide) (by decide) (B.2.2.2.1 _ k_1699) (mt_cast (B.2.2.2.1 _ k_955)), ?_⟩
      refine mv_astore_n (pc := 12) B d_Law_run_12 rfl (by decide) rfl ?_
      refine mv_iconst (pc := 13) (v := 1) B d_Law_run_13 (by decide) ?_
      exact mv_iret (pc := 14) B hr rfl d_Law_run_14 (Nat.le_of_ble_eq_true rfl) (Nat.le_of_ble_eq_true rfl) ⟨_, rfl, GO.rf, hC, Or.inl ⟨rfl, hb, rfl⟩⟩
    · subst hX
      refine ⟨15, mt_H.snd (X := "java/lang/IllegalStateException") (Y := "java/lang/IllegalArgumentException") (Z := "java/lang/IllegalStateException") B.2.2.1 htab (by decide) (by decide) (by decide) (by decide) (B.2.2.2.1 _ k_1699) (B.2.2.2.1 _ k_1712) (mt_cast (B.2.2.2.1 _ k_1718)) (hNs.2.2 _ (Or.inr rfl)), ?_⟩
      refine mv_astore_n (pc := 15) B d_Law_run_15 rfl (by decide) rfl ?_
      refine mv_iconst (pc := 16) (v := 2) B d_Law_run_16 (by decide) ?_
      exact mv_iret (pc := 17) B hr rfl d_Law_run_17 (Nat.le_of_ble_eq_true rfl) (Nat.le_of_ble_eq_true rfl) ⟨_, rfl, GO.rf, hC, Or.inr (Or.inl ⟨rfl, hw, hn, rfl⟩)⟩
  rcases h9 with ⟨v8, h8, h9⟩ | ⟨X8, a8, h8, -⟩
  rotate_left
  · cases h8
  cases h8
  obtain ⟨hC2, hG, hGP, hFM, N9, hn1, hn2, hn3, hp9, hRN⟩ := h9
  refine mv_i2l (pc := 7) B d_Law_run_7 ?_
  refine mv_last (pc := 8) B rfl (i32_in (by decide) (by decide)) d_Law_run_8 ?_
  refine mv_goto (pc := 9) (tgt := 18) B d_Law_run_9 rfl ?_
  refine mv_iconst (pc := 18) (v := 0) B d_Law_run_18 (by decide) ?_
  exact mv_iret (pc := 19) B hr rfl d_Law_run_19 (Nat.le_of_ble_eq_true rfl) (Nat.le_of_ble_eq_true rfl) ⟨_, rfl, ⟨hG.go.sb, hGP.sb⟩, hC2.sb, Or.inr (Or.inr ⟨rfl, N9, hn1, hn2, hn3, hp9, _, hRN.sb, bw_out rfl⟩)⟩
set_option maxHeartbeats 4000000 in
set_option maxRecDepth 100000 in
theorem c_Law_run_b (l : Launch) {dA : FieldType → ClassId} {D : va_G} {al : Nat → Nat} {ext : mv_Sh} {sk sv : Nat → Nat} (hi : mv_inj (mg dA D al ext)) (σ : mv_H) (hlt : l.stackTraces = false) (n9 : Int32) (k9 : Nat) (hC : LC ext σ 48 32768 512 k9) (r9 : SI × LZ × List DnS) (R9 : Nat → Nat → Int64) (hK : KOx 48 r9 σ) (hS : SPq 48 r9.1 σ) (hO : TCq 48 32768 512 r9 σ) (hV : VLr r9 σ R9) (hL9 : LIq r9) (hU : UQs r9.1) : mv_C l y_Law_run (Cond.codeWith y_Law_run b_Law_run 4 (Option.some Jvm.ClassFile.FieldType.int) [((0 : Nat), (9 : Nat), (12 : Nat), (19 : Nat)), ((0 : Nat), (9 : Nat), (15 : Nat), (25 : Nat))] :: ma) ({ frames := 8, cells := 1, slots := 6, locals := 199 }) (mg dA D al ext) (mKt sk sv) [.ref (al 0), .int n9, .ref (al 142)] σ (mv_Ri (fun v σ1 => GO σ σ1 ∧ LC ext σ1 48 32768 512 k9 ∧ ((v = 1 ∧ (n9.toInt < 1 ∨ 500 < n9.toInt) ∧ σ1 = σ) ∨ (v = 2 ∧ ¬ (n9.toInt < 1 ∨ 500 < n9.toInt) ∧ (mv_i σ 48 9).toInt < 0 ∧ σ1 = σ) ∨ (v = 0 ∧ ∃ N9, n9 = nI N9 ∧ 0 < N9 ∧ N9 ≤ 500 ∧ 0 ≤ (mv_i σ 48 9).toInt ∧ ∃ x, RNr r9 N9 R9 σ σ1 x ∧ mv_b σ1 142 0 = x.toInt64)))) := by
  refine mv_C.ofVW (cc := b_Law_run) (nL := 4) (ret := (Option.some Jvm.ClassFile.FieldType.int)) (hh := [((0 : Nat), (9 : Nat), (12 : Nat), (19 : Nat)), ((0 : Nat), (9 : Nat), (15 : Nat), (25 : Nat))]) (by decide +kernel) rfl hi (Nat.le_of_ble_eq_true rfl) ?_
  intro p e s m below meth c B hNs hr hnm htab
  refine mv_aload_n (pc := 0) B d_Law_run_0 rfl 2 rfl ?_
  refine mv_iconst (pc := 1) (v := 0) B d_Law_run_1 (by decide) ?_
  refine mv_aload_n (pc := 2) B d_Law_run_2 rfl 0 rfl ?_
  refine mv_iload_n (pc := 3) B d_Law_run_3 rfl 1 rfl ?_
  refine mv_callVC (pc := 4) (n := 1) (ci := 0) (C := R_Loom) (o := 0) B (mKt_ok sk sv) hNs rfl rfl (c_kq_Loom_run_b l hi _ hlt _ k9 hC r9 R9 hK hS hO hV hL9 hU) rfl (ma_goodc kc_Loom_run) (B.2.2.2.1 _ k_1789) (B.2.2.2.1 _ k_1790) (B.2.2.2.1 _ k_1791) (B.2.2.2.1 _ k_1) ⟨by decide +kernel, by decide +kernel, by decide +kernel⟩ rfl d_Law_run_4 rfl (Nat.le_of_ble_eq_true rfl) ⟨by decide, by decide⟩ ⟨by decide, by decide⟩ (fun x9 τ9 h9 => ?_) (fun v9 τ9 h9 => ?_)
  · skip
    rcases h9 with ⟨v8, h8, -⟩ | ⟨X8, a8, h8, h9⟩
    · cases h8
    cases h8
    obtain ⟨hs, hT⟩ := h9
    subst hs
    rcases hT with ⟨hX, hb⟩ | ⟨hX, hw, hn⟩
    · subst hX
      refine ⟨12, mt_H.fst (X := "java/lang/IllegalArgumentException") (Y := "java/lang/IllegalArgumentException") B.2.2.1 htab (by decide) (by decide) (by decide) (B.2.2.2.1 _ k_1699) (mt_cast (B.2.2.2.1 _ k_955)), ?_⟩
      refine mv_astore_n (pc := 12) B d_Law_run_12 rfl (by decide) rfl ?_
      refine mv_iconst (pc := 13) (v := 1) B d_Law_run_13 (by decide) ?_
      exact mv_iret (pc := 14) B hr rfl d_Law_run_14 (Nat.le_of_ble_eq_true rfl) (Nat.le_of_ble_eq_true rfl) ⟨_, rfl, GO.rf, hC, Or.inl ⟨rfl, hb, rfl⟩⟩
    · subst hX
      refine ⟨15, mt_H.snd (X := "java/lang/IllegalStateException") (Y := "java/lang/IllegalArgumentException") (Z := "java/lang/IllegalStateException") B.2.2.1 htab (by decide) (by decide) (by decide) (by decide) (B.2.2.2.1 _ k_1699) (B.2.2.2.1 _ k_1712) (mt_cast (B.2.2.2.1 _ k_1718)) (hNs.2.2 _ (Or.inr rfl)), ?_⟩
      refine mv_astore_n (pc := 15) B d_Law_run_15 rfl (by decide) rfl ?_
      refine mv_iconst (pc := 16) (v := 2) B d_Law_run_16 (by decide) ?_
      exact mv_iret (pc := 17) B hr rfl d_Law_run_17 (Nat.le_of_ble_eq_true rfl) (Nat.le_of_ble_eq_true rfl) ⟨_, rfl, GO.rf, hC, Or.inr (Or.inl ⟨rfl, hw, hn, rfl⟩)⟩
  rcases h9 with ⟨v8, h8, h9⟩ | ⟨X8, a8, h8, -⟩
  rotate_left
  · cases h8
  cases h8
  obtain ⟨hC2, hG, hGP, hFM, N9, hn1, hn2, hn3, hp9, hRN⟩ := h9
  refine mv_i2l (pc := 7) B d_Law_run_7 ?_
  refine mv_last (pc := 8) B rfl (i32_in (by decide) (by decide)) d_Law_run_8 ?_
  refine mv_goto (pc := 9) (tgt := 18) B d_Law_run_9 rfl ?_
  refine mv_iconst (pc := 18) (v := 0) B d_Law_run_18 (by decide) ?_
  exact mv_iret (pc := 19) B hr rfl d_Law_run_19 (Nat.le_of_ble_eq_true rfl) (Nat.le_of_ble_eq_true rfl) ⟨_, rfl, ⟨hG.go.sb, hGP.sb⟩, hC2.sb, Or.inr (Or.inr ⟨rfl, N9, hn1, hn2, hn3, hp9, _, hRN.sb, bw_out rfl⟩)⟩
set_option maxHeartbeats 4000000 in
set_option maxRecDepth 100000 in
theorem c_Law_run_c (l : Launch) {dA : FieldType → ClassId} {D : va_G} {al : Nat → Nat} {sk sv : Nat → Nat} (hi : mv_inj (mg dA D al me)) (σ : mv_H) (hlt : l.stackTraces = false) (n9 : Int32) (k9 : Nat) (hC : LC me σ 145 8192 48 k9) (r9 : SI × LZ × List DnS) (R9 : Nat → Nat → Int64) (hK : KOx 145 r9 σ) (hS : SPq 145 r9.1 σ) (hO : TCq 145 8192 48 r9 σ) (hV : VLr r9 σ R9) (hL9 : LIq r9) (hU : UQs r9.1) : mv_C l y_Law_run (Cond.codeWith y_Law_run b_Law_run 4 (Option.some Jvm.ClassFile.FieldType.int) [((0 : Nat), (9 : Nat), (12 : Nat), (19 : Nat)), ((0 : Nat), (9 : Nat), (15 : Nat), (25 : Nat))] :: ma) ({ frames := 8, cells := 1, slots := 6, locals := 199 }) (mg dA D al me) (mKt sk sv) [.ref (al 0), .int n9, .ref (al 142)] σ (mv_Ri (fun v σ1 => GO σ σ1 ∧ LC me σ1 145 8192 48 k9 ∧ ((v = 1 ∧ (n9.toInt < 1 ∨ 500 < n9.toInt) ∧ σ1 = σ) ∨ (v = 2 ∧ ¬ (n9.toInt < 1 ∨ 500 < n9.toInt) ∧ (mv_i σ 145 9).toInt < 0 ∧ σ1 = σ) ∨ (v = 0 ∧ ∃ N9, n9 = nI N9 ∧ 0 < N9 ∧ N9 ≤ 500 ∧ 0 ≤ (mv_i σ 145 9).toInt ∧ ∃ x, RNr r9 N9 R9 σ σ1 x ∧ mv_b σ1 142 0 = x.toInt64)))) := by
  refine mv_C.ofVW (cc := b_Law_run) (nL := 4) (ret := (Option.some Jvm.ClassFile.FieldType.int)) (hh := [((0 : Nat), (9 : Nat), (12 : Nat), (19 : Nat)), ((0 : Nat), (9 : Nat), (15 : Nat), (25 : Nat))]) (by decide +kernel) rfl hi (Nat.le_of_ble_eq_true rfl) ?_
  intro p e s m below meth c B hNs hr hnm htab
  refine mv_aload_n (pc := 0) B d_Law_run_0 rfl 2 rfl ?_
  refine mv_iconst (pc := 1) (v := 0) B d_Law_run_1 (by decide) ?_
  refine mv_aload_n (pc := 2) B d_Law_run_2 rfl 0 rfl ?_
  refine mv_iload_n (pc := 3) B d_Law_run_3 rfl 1 rfl ?_
  refine mv_callVC (pc := 4) (n := 1) (ci := 0) (C := R_Loom) (o := 0) B (mKt_ok sk sv) hNs rfl rfl (c_kq_Loom_run_c l hi _ hlt _ k9 hC r9 R9 hK hS hO hV hL9 hU) rfl (ma_goodc kc_Loom_run) (B.2.2.2.1 _ k_1789) (B.2.2.2.1 _ k_1790) (B.2.2.2.1 _ k_1791) (B.2.2.2.1 _ k_1) ⟨by decide +kernel, by decide +kernel, by decide +kernel⟩ rfl d_Law_run_4 rfl (Nat.le_of_ble_eq_true rfl) ⟨by decide, by decide⟩ ⟨by decide, by decide⟩ (fun x9 τ9 h9 => ?_) (fun v9 τ9 h9 => ?_)
  · skip
    rcases h9 with ⟨v8, h8, -⟩ | ⟨X8, a8, h8, h9⟩
    · cases h8
    cases h8
    obtain ⟨hs, hT⟩ := h9
    subst hs
    rcases hT with ⟨hX, hb⟩ | ⟨hX, hw, hn⟩
    · subst hX
      refine ⟨12, mt_H.fst (X := "java/lang/IllegalArgumentException") (Y := "java/lang/IllegalArgumentException") B.2.2.1 htab (by decide) (by decide) (by decide) (B.2.2.2.1 _ k_1699) (mt_cast (B.2.2.2.1 _ k_955)), ?_⟩
      refine mv_astore_n (pc := 12) B d_Law_run_12 rfl (by decide) rfl ?_
      refine mv_iconst (pc := 13) (v := 1) B d_Law_run_13 (by decide) ?_
      exact mv_iret (pc := 14) B hr rfl d_Law_run_14 (Nat.le_of_ble_eq_true rfl) (Nat.le_of_ble_eq_true rfl) ⟨_, rfl, GO.rf, hC, Or.inl ⟨rfl, hb, rfl⟩⟩
    · subst hX
      refine ⟨15, mt_H.snd (X := "java/lang/IllegalStateException") (Y := "java/lang/IllegalArgumentException") (Z := "java/lang/IllegalStateException") B.2.2.1 htab (by decide) (by decide) (by decide) (by decide) (B.2.2.2.1 _ k_1699) (B.2.2.2.1 _ k_1712) (mt_cast (B.2.2.2.1 _ k_1718)) (hNs.2.2 _ (Or.inr rfl)), ?_⟩
      refine mv_astore_n (pc := 15) B d_Law_run_15 rfl (by decide) rfl ?_
      refine mv_iconst (pc := 16) (v := 2) B d_Law_run_16 (by decide) ?_
      exact mv_iret (pc := 17) B hr rfl d_Law_run_17 (Nat.le_of_ble_eq_true rfl) (Nat.le_of_ble_eq_true rfl) ⟨_, rfl, GO.rf, hC, Or.inr (Or.inl ⟨rfl, hw, hn, rfl⟩)⟩
  rcases h9 with ⟨v8, h8, h9⟩ | ⟨X8, a8, h8, -⟩
  rotate_left
  · cases h8
  cases h8
  obtain ⟨hC2, hG, hGP, hFM, N9, hn1, hn2, hn3, hp9, hRN⟩ := h9
  refine mv_i2l (pc := 7) B d_Law_run_7 ?_
  refine mv_last (pc := 8) B rfl (i32_in (by decide) (by decide)) d_Law_run_8 ?_
  refine mv_goto (pc := 9) (tgt := 18) B d_Law_run_9 rfl ?_
  refine mv_iconst (pc := 18) (v := 0) B d_Law_run_18 (by decide) ?_
  exact mv_iret (pc := 19) B hr rfl d_Law_run_19 (Nat.le_of_ble_eq_true rfl) (Nat.le_of_ble_eq_true rfl) ⟨_, rfl, ⟨hG.go.sb, hGP.sb⟩, hC2.sb, Or.inr (Or.inr ⟨rfl, N9, hn1, hn2, hn3, hp9, _, hRN.sb, bw_out rfl⟩)⟩
def y_Law_thing : MethodName := ⟨"MachineLoomLaw", "thing", "(LMachineLoom;II[J)I"⟩
abbrev b_Law_thing : ByteArray := method_11_code
theorem kc_Law_thing : Cond.codeWith y_Law_thing b_Law_thing 5 (Option.some Jvm.ClassFile.FieldType.int) [((0 : Nat), (10 : Nat), (13 : Nat), (19 : Nat)), ((0 : Nat), (10 : Nat), (17 : Nat), (34 : Nat))] ∈ ma := ma_of (tb_8 _ (List.mem_of_getElem? (i := 124) rfl)) rfl
theorem k_1805 : (Jvm.Cond.methodLink "MachineLoomLaw" (47 : Nat) ({ cls := "MachineLoom", name := "thing", desc := "(II)I" } : Jvm.MethodName)) ∈ ma := ma_of (tb_8 _ (List.mem_of_getElem? (i := 125) rfl)) rfl
theorem k_1806 : (Jvm.Cond.instanceMethod ({ cls := "MachineLoom", name := "thing", desc := "(II)I" } : Jvm.MethodName)) ∈ ma := ma_of (tb_8 _ (List.mem_of_getElem? (i := 126) rfl)) rfl
theorem k_1807 : (Jvm.Cond.selects "MachineLoom" ({ cls := "MachineLoom", name := "thing", desc := "(II)I" } : Jvm.MethodName) ({ cls := "MachineLoom", name := "thing", desc := "(II)I" } : Jvm.MethodName)) ∈ ma := ma_of (tb_8 _ (List.mem_of_getElem? (i := 127) rfl)) rfl
theorem d_Law_thing_0 : decode b_Law_thing 0 = .ok (.aload_n 3, 1) := by decide +kernel
theorem d_Law_thing_1 : decode b_Law_thing 1 = .ok (.iconst 0, 1) := by decide +kernel
theorem d_Law_thing_2 : decode b_Law_thing 2 = .ok (.aload_n 0, 1) := by decide +kernel
theorem d_Law_thing_3 : decode b_Law_thing 3 = .ok (.iload_n 1, 1) := by decide +kernel
theorem d_Law_thing_4 : decode b_Law_thing 4 = .ok (.iload_n 2, 1) := by decide +kernel
theorem d_Law_thing_5 : decode b_Law_thing 5 = .ok (.invokevirtual 47, 3) := by decide +kernel
theorem d_Law_thing_8 : decode b_Law_thing 8 = .ok (.i2l, 1) := by decide +kernel
theorem d_Law_thing_9 : decode b_Law_thing 9 = .ok (.lastore, 1) := by decide +kernel
theorem d_Law_thing_10 : decode b_Law_thing 10 = .ok (.goto (11), 3) := by decide +kernel
theorem d_Law_thing_13 : decode b_Law_thing 13 = .ok (.astore 4, 2) := by decide +kernel
theorem d_Law_thing_15 : decode b_Law_thing 15 = .ok (.iconst 1, 1) := by decide +kernel
theorem d_Law_thing_16 : decode b_Law_thing 16 = .ok (.ireturn, 1) := by decide +kernel
theorem d_Law_thing_17 : decode b_Law_thing 17 = .ok (.astore 4, 2) := by decide +kernel
theorem d_Law_thing_19 : decode b_Law_thing 19 = .ok (.iconst 2, 1) := by decide +kernel
theorem d_Law_thing_20 : decode b_Law_thing 20 = .ok (.ireturn, 1) := by decide +kernel
theorem d_Law_thing_21 : decode b_Law_thing 21 = .ok (.iconst 0, 1) := by decide +kernel
theorem d_Law_thing_22 : decode b_Law_thing 22 = .ok (.ireturn, 1) := by decide +kernel
set_option maxHeartbeats 4000000 in
set_option maxRecDepth 100000 in
theorem c_Law_thing_a (l : Launch) {dA : FieldType → ClassId} {D : va_G} {al : Nat → Nat} {ext : mv_Sh} {sk sv : Nat → Nat} (hi : mv_inj (mg dA D al ext)) (σ : mv_H) (hlt : l.stackTraces = false) (t9 i9 : Int32) (k9 : Nat) (hC : LC ext σ 32 32768 512 k9) : mv_C l y_Law_thing (Cond.codeWith y_Law_thing b_Law_thing 5 (Option.some Jvm.ClassFile.FieldType.int) [((0 : Nat), (10 : Nat), (13 : Nat), (19 : Nat)), ((0 : Nat), (10 : Nat), (17 : Nat), (34 : Nat))] :: ma) ({ frames := 7, cells := 1, slots := 6, locals := 104 }) (mg dA D al ext) (mKt sk sv) [.ref (al 0), .int t9, .int i9, .ref (al 142)] σ (mv_Ri (fun v σ1 => GL σ σ1 ∧ LC ext σ1 32 32768 512 k9 ∧ ((v = 1 ∧ ¬ WHq i9) ∨ (v = 2 ∧ WHq i9 ∧ ¬ (0 ≤ t9.toInt ∧ t9.toInt < (mv_i σ 32 1).toInt)) ∨ (v = 0 ∧ WHq i9 ∧ (0 ≤ t9.toInt ∧ t9.toInt < (mv_i σ 32 1).toInt) ∧ mv_b σ1 142 0 = (tgC (mv_a σ 33) (mv_a σ 34) t9 i9).toInt64)))) := by
  refine mv_C.ofVW (cc := b_Law_thing) (nL := 5) (ret := (Option.some Jvm.ClassFile.FieldType.int)) (hh := [((0 : Nat), (10 : Nat), (13 : Nat), (19 : Nat)), ((0 : Nat), (10 : Nat), (17 : Nat), (34 : Nat))]) (by decide +kernel) rfl hi (Nat.le_of_ble_eq_true rfl) ?_
  intro p e s m below meth c B hNs hr hnm htab
  refine mv_aload_n (pc := 0) B d_Law_thing_0 rfl 3 rfl ?_
  refine mv_iconst (pc := 1) (v := 0) B d_Law_thing_1 (by decide) ?_
  refine mv_aload_n (pc := 2) B d_Law_thing_2 rfl 0 rfl ?_
  refine mv_iload_n (pc := 3) B d_Law_thing_3 rfl 1 rfl ?_
  refine mv_iload_n (pc := 4) B d_Law_thing_4 rfl 2 rfl ?_
  refine mv_callVC (pc := 5) (n := 2) (ci := 0) (C := R_Loom) (o := 0) B (mKt_ok sk sv) hNs rfl rfl (c_kt_Loom_thing_a l hi _ hlt _ _ k9 hC) rfl (ma_goodc kc_Loom_thing) (B.2.2.2.1 _ k_1805) (B.2.2.2.1 _ k_1806) (B.2.2.2.1 _ k_1807) (B.2.2.2.1 _ k_1) ⟨by decide +kernel, by decide +kernel, by decide +kernel⟩ rfl d_Law_thing_5 rfl (Nat.le_of_ble_eq_true rfl) ⟨by decide, by decide⟩ ⟨by decide, by decide⟩ (fun x9 τ9 h9 => ?_) (fun v9 τ9 h9 => ?_)
  · skip
    rcases h9 with ⟨v8, h8, -⟩ | ⟨X8, a8, h8, h9⟩
    · cases h8
    cases h8
    obtain ⟨hs, hT⟩ := h9
    subst hs
    rcases hT with ⟨hX, hb⟩ | ⟨hX, hw, hn⟩
    · subst hX
      refine ⟨13, mt_H.fst (X := "java/lang/IllegalArgumentException") (Y := "java/lang/IllegalArgumentException") B.2.2.1 htab (by decide) (by decide) (by decide) (B.2.2.2.1 _ k_1699) (mt_cast (B.2.2.2.1 _ k_955)), ?_⟩
      refine mv_astore (pc := 13) B d_Law_thing_13 (by decide) rfl ?_
      refine mv_iconst (pc := 15) (v := 1) B d_Law_thing_15 (by decide) ?_
      exact mv_iret (pc := 16) B hr rfl d_Law_thing_16 (Nat.le_of_ble_eq_true rfl) (Nat.le_of_ble_eq_true rfl) ⟨_, rfl, GL.rf, hC, Or.inl ⟨rfl, hb⟩⟩
    · subst hX
      refine ⟨17, mt_H.snd (X := "java/util/NoSuchElementException") (Y := "java/lang/IllegalArgumentException") (Z := "java/util/NoSuchElementException") B.2.2.1 htab (by decide) (by decide) (by decide) (by decide) (B.2.2.2.1 _ k_1699) (B.2.2.2.1 _ k_1742) (mt_cast (B.2.2.2.1 _ k_1752)) (hNs.2.2 _ (Or.inl rfl)), ?_⟩
      refine mv_astore (pc := 17) B d_Law_thing_17 (by decide) rfl ?_
      refine mv_iconst (pc := 19) (v := 2) B d_Law_thing_19 (by decide) ?_
      exact mv_iret (pc := 20) B hr rfl d_Law_thing_20 (Nat.le_of_ble_eq_true rfl) (Nat.le_of_ble_eq_true rfl) ⟨_, rfl, GL.rf, hC, Or.inr (Or.inl ⟨rfl, hw, hn⟩)⟩
  rcases h9 with ⟨v8, h8, h9⟩ | ⟨X8, a8, h8, -⟩
  rotate_left
  · cases h8
  cases h8
  obtain ⟨hs, hw, hr9, hv⟩ := h9
  subst hs
  refine mv_i2l (pc := 8) B d_Law_thing_8 ?_
  refine mv_last (pc := 9) B rfl (i32_in (by decide) (by decide)) d_Law_thing_9 ?_
  refine mv_goto (pc := 10) (tgt := 21) B d_Law_thing_10 rfl ?_
  refine mv_iconst (pc := 21) (v := 0) B d_Law_thing_21 (by decide) ?_
  exact mv_iret (pc := 22) B hr rfl d_Law_thing_22 (Nat.le_of_ble_eq_true rfl) (Nat.le_of_ble_eq_true rfl) ⟨_, rfl, GL.rf.sb, hC.sb, Or.inr (Or.inr ⟨rfl, hw, hr9, bw_out hv⟩)⟩
set_option maxHeartbeats 4000000 in
set_option maxRecDepth 100000 in
theorem c_Law_thing_b (l : Launch) {dA : FieldType → ClassId} {D : va_G} {al : Nat → Nat} {ext : mv_Sh} {sk sv : Nat → Nat} (hi : mv_inj (mg dA D al ext)) (σ : mv_H) (hlt : l.stackTraces = false) (t9 i9 : Int32) (k9 : Nat) (hC : LC ext σ 48 32768 512 k9) : mv_C l y_Law_thing (Cond.codeWith y_Law_thing b_Law_thing 5 (Option.some Jvm.ClassFile.FieldType.int) [((0 : Nat), (10 : Nat), (13 : Nat), (19 : Nat)), ((0 : Nat), (10 : Nat), (17 : Nat), (34 : Nat))] :: ma) ({ frames := 7, cells := 1, slots := 6, locals := 104 }) (mg dA D al ext) (mKt sk sv) [.ref (al 0), .int t9, .int i9, .ref (al 142)] σ (mv_Ri (fun v σ1 => GL σ σ1 ∧ LC ext σ1 48 32768 512 k9 ∧ ((v = 1 ∧ ¬ WHq i9) ∨ (v = 2 ∧ WHq i9 ∧ ¬ (0 ≤ t9.toInt ∧ t9.toInt < (mv_i σ 48 1).toInt)) ∨ (v = 0 ∧ WHq i9 ∧ (0 ≤ t9.toInt ∧ t9.toInt < (mv_i σ 48 1).toInt) ∧ mv_b σ1 142 0 = (tgC (mv_a σ 49) (mv_a σ 50) t9 i9).toInt64)))) := by
  refine mv_C.ofVW (cc := b_Law_thing) (nL := 5) (ret := (Option.some Jvm.ClassFile.FieldType.int)) (hh := [((0 : Nat), (10 : Nat), (13 : Nat), (19 : Nat)), ((0 : Nat), (10 : Nat), (17 : Nat), (34 : Nat))]) (by decide +kernel) rfl hi (Nat.le_of_ble_eq_true rfl) ?_
  intro p e s m below meth c B hNs hr hnm htab
  refine mv_aload_n (pc := 0) B d_Law_thing_0 rfl 3 rfl ?_
  refine mv_iconst (pc := 1) (v := 0) B d_Law_thing_1 (by decide) ?_
  refine mv_aload_n (pc := 2) B d_Law_thing_2 rfl 0 rfl ?_
  refine mv_iload_n (pc := 3) B d_Law_thing_3 rfl 1 rfl ?_
  refine mv_iload_n (pc := 4) B d_Law_thing_4 rfl 2 rfl ?_
  refine mv_callVC (pc := 5) (n := 2) (ci := 0) (C := R_Loom) (o := 0) B (mKt_ok sk sv) hNs rfl rfl (c_kt_Loom_thing_b l hi _ hlt _ _ k9 hC) rfl (ma_goodc kc_Loom_thing) (B.2.2.2.1 _ k_1805) (B.2.2.2.1 _ k_1806) (B.2.2.2.1 _ k_1807) (B.2.2.2.1 _ k_1) ⟨by decide +kernel, by decide +kernel, by decide +kernel⟩ rfl d_Law_thing_5 rfl (Nat.le_of_ble_eq_true rfl) ⟨by decide, by decide⟩ ⟨by decide, by decide⟩ (fun x9 τ9 h9 => ?_) (fun v9 τ9 h9 => ?_)
  · skip
    rcases h9 with ⟨v8, h8, -⟩ | ⟨X8, a8, h8, h9⟩
    · cases h8
    cases h8
    obtain ⟨hs, hT⟩ := h9
    subst hs
    rcases hT with ⟨hX, hb⟩ | ⟨hX, hw, hn⟩
    · subst hX
      refine ⟨13, mt_H.fst (X := "java/lang/IllegalArgumentException") (Y := "java/lang/IllegalArgumentException") B.2.2.1 htab (by decide) (by decide) (by decide) (B.2.2.2.1 _ k_1699) (mt_cast (B.2.2.2.1 _ k_955)), ?_⟩
      refine mv_astore (pc := 13) B d_Law_thing_13 (by decide) rfl ?_
      refine mv_iconst (pc := 15) (v := 1) B d_Law_thing_15 (by decide) ?_
      exact mv_iret (pc := 16) B hr rfl d_Law_thing_16 (Nat.le_of_ble_eq_true rfl) (Nat.le_of_ble_eq_true rfl) ⟨_, rfl, GL.rf, hC, Or.inl ⟨rfl, hb⟩⟩
    · subst hX
      refine ⟨17, mt_H.snd (X := "java/util/NoSuchElementException") (Y := "java/lang/IllegalArgumentException") (Z := "java/util/NoSuchElementException") B.2.2.1 htab (by decide) (by decide) (by decide) (by decide) (B.2.2.2.1 _ k_1699) (B.2.2.2.1 _ k_1742) (mt_cast (B.2.2.2.1 _ k_1752)) (hNs.2.2 _ (Or.inl rfl)), ?_⟩
      refine mv_astore (pc := 17) B d_Law_thing_17 (by decide) rfl ?_
      refine mv_iconst (pc := 19) (v := 2) B d_Law_thing_19 (by decide) ?_
      exact mv_iret (pc := 20) B hr rfl d_Law_thing_20 (Nat.le_of_ble_eq_true rfl) (Nat.le_of_ble_eq_true rfl) ⟨_, rfl, GL.rf, hC, Or.inr (Or.inl ⟨rfl, hw, hn⟩)⟩
  rcases h9 with ⟨v8, h8, h9⟩ | ⟨X8, a8, h8, -⟩
  rotate_left
  · cases h8
  cases h8
  obtain ⟨hs, hw, hr9, hv⟩ := h9
  subst hs
  refine mv_i2l (pc := 8) B d_Law_thing_8 ?_
  refine mv_last (pc := 9) B rfl (i32_in (by decide) (by decide)) d_Law_thing_9 ?_
  refine mv_goto (pc := 10) (tgt := 21) B d_Law_thing_10 rfl ?_
  refine mv_iconst (pc := 21) (v := 0) B d_Law_thing_21 (by decide) ?_
  exact mv_iret (pc := 22) B hr rfl d_Law_thing_22 (Nat.le_of_ble_eq_true rfl) (Nat.le_of_ble_eq_true rfl) ⟨_, rfl, GL.rf.sb, hC.sb, Or.inr (Or.inr ⟨rfl, hw, hr9, bw_out hv⟩)⟩
set_option maxHeartbeats 4000000 in
set_option maxRecDepth 100000 in
theorem c_Law_thing_c (l : Launch) {dA : FieldType → ClassId} {D : va_G} {al : Nat → Nat} {sk sv : Nat → Nat} (hi : mv_inj (mg dA D al me)) (σ : mv_H) (hlt : l.stackTraces = false) (t9 i9 : Int32) (k9 : Nat) (hC : LC me σ 145 8192 48 k9) : mv_C l y_Law_thing (Cond.codeWith y_Law_thing b_Law_thing 5 (Option.some Jvm.ClassFile.FieldType.int) [((0 : Nat), (10 : Nat), (13 : Nat), (19 : Nat)), ((0 : Nat), (10 : Nat), (17 : Nat), (34 : Nat))] :: ma) ({ frames := 7, cells := 1, slots := 6, locals := 104 }) (mg dA D al me) (mKt sk sv) [.ref (al 0), .int t9, .int i9, .ref (al 142)] σ (mv_Ri (fun v σ1 => GL σ σ1 ∧ LC me σ1 145 8192 48 k9 ∧ ((v = 1 ∧ ¬ WHq i9) ∨ (v = 2 ∧ WHq i9 ∧ ¬ (0 ≤ t9.toInt ∧ t9.toInt < (mv_i σ 145 1).toInt)) ∨ (v = 0 ∧ WHq i9 ∧ (0 ≤ t9.toInt ∧ t9.toInt < (mv_i σ 145 1).toInt) ∧ mv_b σ1 142 0 = (tgC (mv_a σ 146) (mv_a σ 147) t9 i9).toInt64)))) := by
  refine mv_C.ofVW (cc := b_Law_thing) (nL := 5) (ret := (Option.some Jvm.ClassFile.FieldType.int)) (hh := [((0 : Nat), (10 : Nat), (13 : Nat), (19 : Nat)), ((0 : Nat), (10 : Nat), (17 : Nat), (34 : Nat))]) (by decide +kernel) rfl hi (Nat.le_of_ble_eq_true rfl) ?_
  intro p e s m below meth c B hNs hr hnm htab
  refine mv_aload_n (pc := 0) B d_Law_thing_0 rfl 3 rfl ?_
  refine mv_iconst (pc := 1) (v := 0) B d_Law_thing_1 (by decide) ?_
  refine mv_aload_n (pc := 2) B d_Law_thing_2 rfl 0 rfl ?_
  refine mv_iload_n (pc := 3) B d_Law_thing_3 rfl 1 rfl ?_
  refine mv_iload_n (pc := 4) B d_Law_thing_4 rfl 2 rfl ?_
  refine mv_callVC (pc := 5) (n := 2) (ci := 0) (C := R_Loom) (o := 0) B (mKt_ok sk sv) hNs rfl rfl (c_kt_Loom_thing_c l hi _ hlt _ _ k9 hC) rfl (ma_goodc kc_Loom_thing) (B.2.2.2.1 _ k_1805) (B.2.2.2.1 _ k_1806) (B.2.2.2.1 _ k_1807) (B.2.2.2.1 _ k_1) ⟨by decide +kernel, by decide +kernel, by decide +kernel⟩ rfl d_Law_thing_5 rfl (Nat.le_of_ble_eq_true rfl) ⟨by decide, by decide⟩ ⟨by decide, by decide⟩ (fun x9 τ9 h9 => ?_) (fun v9 τ9 h9 => ?_)
  · skip
    rcases h9 with ⟨v8, h8, -⟩ | ⟨X8, a8, h8, h9⟩
    · cases h8
    cases h8
    obtain ⟨hs, hT⟩ := h9
    subst hs
    rcases hT with ⟨hX, hb⟩ | ⟨hX, hw, hn⟩
    · subst hX
      refine ⟨13, mt_H.fst (X := "java/lang/IllegalArgumentException") (Y := "java/lang/IllegalArgumentException") B.2.2.1 htab (by decide) (by decide) (by decide) (B.2.2.2.1 _ k_1699) (mt_cast (B.2.2.2.1 _ k_955)), ?_⟩
      refine mv_astore (pc := 13) B d_Law_thing_13 (by decide) rfl ?_
      refine mv_iconst (pc := 15) (v := 1) B d_Law_thing_15 (by decide) ?_
      exact mv_iret (pc := 16) B hr rfl d_Law_thing_16 (Nat.le_of_ble_eq_true rfl) (Nat.le_of_ble_eq_true rfl) ⟨_, rfl, GL.rf, hC, Or.inl ⟨rfl, hb⟩⟩
    · subst hX
      refine ⟨17, mt_H.snd (X := "java/util/NoSuchElementException") (Y := "java/lang/IllegalArgumentException") (Z := "java/util/NoSuchElementException") B.2.2.1 htab (by decide) (by decide) (by decide) (by decide) (B.2.2.2.1 _ k_1699) (B.2.2.2.1 _ k_1742) (mt_cast (B.2.2.2.1 _ k_1752)) (hNs.2.2 _ (Or.inl rfl)), ?_⟩
      refine mv_astore (pc := 17) B d_Law_thing_17 (by decide) rfl ?_
      refine mv_iconst (pc := 19) (v := 2) B d_Law_thing_19 (by decide) ?_
      exact mv_iret (pc := 20) B hr rfl d_Law_thing_20 (Nat.le_of_ble_eq_true rfl) (Nat.le_of_ble_eq_true rfl) ⟨_, rfl, GL.rf, hC, Or.inr (Or.inl ⟨rfl, hw, hn⟩)⟩
  rcases h9 with ⟨v8, h8, h9⟩ | ⟨X8, a8, h8, -⟩
  rotate_left
  · cases h8
  cases h8
  obtain ⟨hs, hw, hr9, hv⟩ := h9
  subst hs
  refine mv_i2l (pc := 8) B d_Law_thing_8 ?_
  refine mv_last (pc := 9) B rfl (i32_in (by decide) (by decide)) d_Law_thing_9 ?_
  refine mv_goto (pc := 10) (tgt := 21) B d_Law_thing_10 rfl ?_
  refine mv_iconst (pc := 21) (v := 0) B d_Law_thing_21 (by decide) ?_
  exact mv_iret (pc := 22) B hr rfl d_Law_thing_22 (Nat.le_of_ble_eq_true rfl) (Nat.le_of_ble_eq_true rfl) ⟨_, rfl, GL.rf.sb, hC.sb, Or.inr (Or.inr ⟨rfl, hw, hr9, bw_out hv⟩)⟩
