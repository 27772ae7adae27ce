/-! a throw that is caught: the handler's class is resolved, or not yet -/
def FindsTo (e : Env) (s : State) (f : JFrame) (a : Addr) (h : Handler) (vm' : Vm) : Prop := ∀ (Q : Handler → Pre) (E : CtlPost) (d : Bool) (acts : List Action), wp (findHandler f a) Q E e d acts s ↔ Q h d acts (s.setVm vm')
theorem mt_go_cold {Q : Handler → Pre} {E : CtlPost} {e : Env} {d : Bool} {acts : List Action} {s : State} {f : JFrame} {a : Addr} {x : ExceptionTableEntry} {t : List ExceptionTableEntry} {c : ClassId} {cell : Cell} (hx : covers x f.pc = true) (h0 : x.catchType ≠ 0)
    (hcl : s.vm.ClassLinks e.platform f.method.cls x.catchType c) (hcell : s.heap[a]? = some cell) (hobj : ∀ k, cell.vm ≠ .statics k) (hk : ∃ k, (s.vm.noted f.method.cls x.catchType (.cls c)).classes[cell.cls]? = some k) (hc : ∃ k, (s.vm.noted f.method.cls x.catchType (.cls c)).classes[c]? = some k)
    (hsz : (s.vm.noted f.method.cls x.catchType (.cls c)).classes.size ≤ s.vm.classes.size := by no_record) :
    wp (findHandler.go f a (x :: t)) Q E e d acts s ↔ if (s.vm.noted f.method.cls x.catchType (.cls c)).assignable cell.cls c = true then Q (.found x.handlerPc) d acts (s.setVm (s.vm.noted f.method.cls x.catchType (.cls c))) else wp (findHandler.go f a t) Q E e d acts (s.setVm (s.vm.noted f.method.cls x.catchType (.cls c))) := by
  obtain ⟨ha, ht⟩ := (resolveClass_links e.toSetting hcl).op (op := VmOp.resolveClass f.method.cls x.catchType) rfl
  simp only [covers] at hx
  cases hfit : (s.vm.noted f.method.cls x.catchType (.cls c)).assignable cell.cls c <;>
    simp [findHandler.go, hx, h0, ha, ht, hsz, hcell, hobj, hk, hc, hfit, VmOp.dirties, VmOp.acts]

section FT1
variable {e : Env} {s : State} {f : JFrame} {a : Addr} {meth : Method} {code : Code} {x y : ExceptionTableEntry} {c c' : ClassId} {cell : Cell}
theorem FindsTo.one (hm : s.vm.method? f.method = some meth) (hc : meth.code = some code) (ht : code.exceptionTable.toList = [x]) (hx : covers x f.pc = true) (h0 : x.catchType ≠ 0)
    (hcl : s.vm.ClassLinks e.platform f.method.cls x.catchType c) (hcell : s.heap[a]? = some cell) (hobj : ∀ k, cell.vm ≠ .statics k) (hk : ∃ k, (s.vm.noted f.method.cls x.catchType (.cls c)).classes[cell.cls]? = some k) (hcc : ∃ k, (s.vm.noted f.method.cls x.catchType (.cls c)).classes[c]? = some k)
    (hfit : (s.vm.noted f.method.cls x.catchType (.cls c)).assignable cell.cls c = true) : FindsTo e s f a (.found x.handlerPc) (s.vm.noted f.method.cls x.catchType (.cls c)) := fun Q E d acts => by
  rw [W.findHandler_eq hm hc, ht, mt_go_cold hx h0 hcl hcell hobj hk hcc, if_pos hfit]
/-- the first of two entries takes it -/
theorem FindsTo.fst (hm : s.vm.method? f.method = some meth) (hc : meth.code = some code) (ht : code.exceptionTable.toList = [x, y]) (hx : covers x f.pc = true) (h0 : x.catchType ≠ 0)
    (hcl : s.vm.ClassLinks e.platform f.method.cls x.catchType c) (hcell : s.heap[a]? = some cell) (hobj : ∀ k, cell.vm ≠ .statics k) (hk : ∃ k, (s.vm.noted f.method.cls x.catchType (.cls c)).classes[cell.cls]? = some k) (hcc : ∃ k, (s.vm.noted f.method.cls x.catchType (.cls c)).classes[c]? = some k)
    (hfit : (s.vm.noted f.method.cls x.catchType (.cls c)).assignable cell.cls c = true) : FindsTo e s f a (.found x.handlerPc) (s.vm.noted f.method.cls x.catchType (.cls c)) := fun Q E d acts => by
  rw [W.findHandler_eq hm hc, ht, mt_go_cold hx h0 hcl hcell hobj hk hcc, if_pos hfit]
/-- the second of two entries takes it -/
theorem FindsTo.snd (hm : s.vm.method? f.method = some meth) (hc : meth.code = some code) (ht : code.exceptionTable.toList = [x, y]) (hx : covers x f.pc = true) (h0 : x.catchType ≠ 0)
    (hcl : s.vm.ClassLinks e.platform f.method.cls x.catchType c) (hcell : s.heap[a]? = some cell) (hobj : ∀ k, cell.vm ≠ .statics k) (hk : ∃ k, (s.vm.noted f.method.cls x.catchType (.cls c)).classes[cell.cls]? = some k) (hcc : ∃ k, (s.vm.noted f.method.cls x.catchType (.cls c)).classes[c]? = some k)
    (hno : ¬ (s.vm.noted f.method.cls x.catchType (.cls c)).assignable cell.cls c = true) (hy : covers y f.pc = true) (h0y : y.catchType ≠ 0) {vm1 : Vm} (hv1 : s.vm.noted f.method.cls x.catchType (.cls c) = vm1)
    (hcl2 : vm1.ClassLinks e.platform f.method.cls y.catchType c') (hk2 : ∃ k, (vm1.noted f.method.cls y.catchType (.cls c')).classes[cell.cls]? = some k) (hcc2 : ∃ k, (vm1.noted f.method.cls y.catchType (.cls c')).classes[c']? = some k)
    (hfit : (vm1.noted f.method.cls y.catchType (.cls c')).assignable cell.cls c' = true) : FindsTo e s f a (.found y.handlerPc) (vm1.noted f.method.cls y.catchType (.cls c')) := fun Q E d acts => by
  subst hv1
  rw [W.findHandler_eq hm hc, ht, mt_go_cold hx h0 hcl hcell hobj hk hcc, if_neg hno, mt_go_cold (s := s.setVm (s.vm.noted f.method.cls x.catchType (.cls c))) hy h0y hcl2 hcell hobj hk2 hcc2, if_pos (c := ((s.setVm (s.vm.noted f.method.cls x.catchType (.cls c))).vm.noted f.method.cls y.catchType (.cls c')).assignable cell.cls c' = true) hfit]
  exact Iff.rfl
end FT1
theorem mt_stepCatch {e : Env} {s : State} {a : Addr} {f : JFrame} {r : List Frame} {pc : Nat} {vm' : Vm} (hfind : FindsTo e s f a (.found pc) vm') : (stepThrowing e s a (.java f :: r)).Is ((s.setVm vm').setFrames (.java { f with pc := pc, stack := [.ref a] } :: r)) [] := by
  simp only [stepThrowing, searchFrame, vmDo]
  generalize hr : Sem.go _ e false [] s = res
  obtain ⟨as, rfl, ha⟩ := Sem.eq_ok_of hr (a := Handler.found pc) (s' := s.setVm vm') (acts' := []) (by simp [hfind _ _ _ _])
  exact ⟨rfl, ha⟩
theorem mt_caught {tb : Tables} {e : Env} {T target : State} {g : JFrame} {c : Code} {below : List Frame} {a : Addr} (h : At T g.method c below) {pc : Nat} {vm' : Vm} (hfind : FindsTo e ((T.setTop g).pushFrame (.throwing a)) g a (.found pc) vm')
    (hrest : Steps tb e below ((T.setVm vm').setTop { g with pc := pc, stack := [.ref a] }) target) : Steps tb e below ((T.setTop g).pushFrame (.throwing a)) target := by
  obtain ⟨hgo, hw⟩ := h.throwing a
  refine Steps.head hgo hw ?_
  rw [stepThread_throwing (frames_entered h.top _), (mt_stepCatch (s := (T.setTop g).pushFrame (.throwing a)) hfind).1]
  obtain ⟨g₀, hg⟩ := Option.isSome_iff_exists.mp h.top
  obtain ⟨r, hr⟩ := State.topJava?_eq_some.mp hg
  have hr' : (T.setVm vm').frames = .java g₀ :: r := hr
  rw [State.setTop_of_frames _ hr'] at hrest
  have e1 : ((T.setTop g).pushFrame (.throwing a)).setVm vm' = (T.setVm vm').setFrames (.throwing a :: .java g :: r) := by
    rw [State.pushFrame, State.frames_setTop _ hr, State.setTop_of_frames _ hr, State.setFrames_setFrames]
    rfl
  rw [e1, State.setFrames_setFrames, hr]
  exact hrest
section MTC
variable {p : Program} {l : Launch} {e : Env} {R : Room} {s : State} {m : MethodId} {args : Array Value} {below : List Frame} {meth : Method} {c : Code} {G : mv_G} {ws : List Cond} {own : String} {cc : ByteArray} {nL : Nat} {cells slots : Nat} {σ : mv_H} {pc : Nat} {L : List (Nat × Value)} {stk rest : List Value}
  {K : mv_T} {ws' wt' : List Cond} {rm' : Room} {y : MethodName} {bytes : ByteArray} {maxL index mc ms n : Nat} {ret : Option FieldType} {av : List Value} {Post PostC : mv_O → mv_H → Prop}
/-- how a throw is caught: where the frame goes on -/
def mt_H (p : Program) (l : Launch) (e : Env) (R : Room) (s : State) (m : MethodId) (args : Array Value) (below : List Frame) (meth : Method) (c : Code) (X : String) (pc hpc : Nat) : Prop :=
  ∀ (T : State) (locs : List Loc) (cells slots : Nat) (g : JFrame) (a : Nat), Stand p l e R s m args below meth c T locs cells slots → mv_X X a T → g.method = m → g.pc = pc → ∃ vm', FindsTo e ((T.setTop g).pushFrame (.throwing a)) g a (.found hpc) vm' ∧ s.WarmedH vm'
theorem mv_backC {T U : State} {H : Heap} {locs : List Loc} {ls : Array Slot} {mk : MethodId} (B : mv_B p s m args meth c G ws own cc nL) (hU : U.heap = H) (X : Stand p l e R s m args below meth c U locs cells slots) (h2 : va_S (mv_A G s.heap.size) s.heap H locs) (h3 : lv_has ls nL L)
    (hcore : ∃ (r : mv_O) (σ' : mv_H) (T' : State) (Lc : List Loc), Post r σ' ∧ va_P (mv_D G) (mv_cl G) (mv_wl G σ') T'.heap ∧ U.heap.size ≤ T'.heap.size ∧ (∀ q : Nat, q < U.heap.size → ¬ mv_A G U.heap.size q → T'.heap[q]? = U.heap[q]?) ∧
      Stand p l e R s m args below meth c T' (locs ++ Lc) (cells + rm'.cells) (slots + rm'.slots) ∧ (∀ q ∈ Lc, mv_A G U.heap.size q.base) ∧ mv_to p e below (F0 m pc ls rest) 3 mk av.toArray U T' r)
    (hstep : ∀ tg, Steps p.tables e below (doInvoke e (U.setTop (F0 m pc ls rest)) [] mk av.toArray).1 tg → Steps p.tables e below (T.setTop (F0 m pc ls stk)) tg)
    (kt : ∀ (x : String × Nat) (σ' : mv_H), Post (.inr x) σ' → ∃ hpc, mt_H p l e R s m args below meth c x.1 pc hpc ∧ mv_V p l e R s m args below meth c G nL (cells + rm'.cells) (slots + rm'.slots) (mv_Q G below s mc ms PostC) σ' hpc L [.ref x.2])
    (kn : ∀ (v : Option Value) (σ' : mv_H), Post (.inl v) σ' → mv_V p l e R s m args below meth c G nL (cells + rm'.cells) (slots + rm'.slots) (mv_Q G below s mc ms PostC) σ' (pc + 3) L (v.toList ++ rest)) :
    ∃ t, Steps p.tables e below (T.setTop (F0 m pc ls stk)) t ∧ mv_Q G below s mc ms PostC t := by
  obtain ⟨r, σ', T', Lc, hp, hP, hz, hk, X', hL, hto⟩ := hcore
  subst hU
  have up : ∀ q, mv_A G U.heap.size q → mv_A G s.heap.size q := fun q h => by
    rcases h with h | h
    · exact Or.inl h
    · exact Or.inr (Nat.le_trans h2.1 h)
  have hS : va_S (mv_A G s.heap.size) s.heap T'.heap (locs ++ Lc) := ⟨Nat.le_trans h2.1 hz, fun q g1 g2 => (hk q (Nat.lt_of_lt_of_le g1 h2.1) (fun z => g2 (up q z))).trans (h2.2.1 q g1 g2), fun q hq => by
    rcases List.mem_append.mp hq with h | h
    · exact h2.2.2 q h
    · exact up _ (hL q h)⟩
  cases r with
  | inl v =>
    obtain ⟨t, a1, b1⟩ := kn v σ' hp T'.heap _ ls hP hS h3 T' rfl X'
    exact ⟨t, hstep t (Steps.trans hto a1), b1⟩
  | inr x =>
    obtain ⟨hX, hto⟩ := hto
    obtain ⟨hpc, hH, hV⟩ := kt x σ' hp
    obtain ⟨vm', hF, hW⟩ := hH T' _ _ _ (F0 m pc ls rest) x.2 X' hX rfl rfl
    obtain ⟨t, a1, b1⟩ := hV T'.heap _ ls hP hS h3 (T'.setVm vm') rfl (X'.noted hW)
    have hA : At T' (F0 m pc ls rest).method c below := X'.here
    exact ⟨t, hstep t (Steps.trans hto (mt_caught hA hF a1)), b1⟩
theorem mv_callVC (B : mv_B p s m args meth c G ws own cc nL) (hN : mv_Tok K) (hNs : K (mv_A G s.heap.size) s s.heap) {C : String} {T0 : u_T} {N0 o ci : Nat} (hs : (mv_sh G)[o]? = some (.inl ci)) (hcl : (mv_cl G)[ci]? = some (C, T0, N0)) (hM : mv_C l y ws' rm' G K (.ref (mv_al G o) :: av) σ Post) (hw : ws' = Cond.code y bytes maxL ret :: wt') (hG : GoodIn ws ws')
    (hlink : (Cond.methodLink own index y).before args s = true) (hinst : (Cond.instanceMethod y).before args s = true) (hsel : (Cond.selects C y y).before args s = true) (hini : (Cond.initialized y.cls).before args s = true)
    (hd : y.cls ≠ "java/lang/invoke/MethodHandle" ∧ y.cls ≠ "java/lang/invoke/VarHandle" ∧ (parseMethodDescriptor y.desc).map (fun d => d.parameters.length) = some n) (hn : av.length = n)
    (hdg : decode cc pc = .ok (.invokevirtual index, 3)) (hstk : stk = av.reverse ++ .ref (mv_al G o) :: rest) (hr8 : (rest.map fun v => v.category).sum ≤ 8) (hroom : rm'.frames + 1 ≤ R.frames ∧ 8 + (maxL + 11) + rm'.locals ≤ R.locals) (hcell : cells + rm'.cells ≤ R.cells ∧ slots + rm'.slots ≤ R.slots)
    (kt : ∀ (x : String × Nat) (σ' : mv_H), Post (.inr x) σ' → ∃ hpc, mt_H p l e R s m args below meth c x.1 pc hpc ∧ mv_V p l e R s m args below meth c G nL (cells + rm'.cells) (slots + rm'.slots) (mv_Q G below s mc ms PostC) σ' hpc L [.ref x.2])
    (kn : ∀ (v : Option Value) (σ' : mv_H), Post (.inl v) σ' → mv_V p l e R s m args below meth c G nL (cells + rm'.cells) (slots + rm'.slots) (mv_Q G below s mc ms PostC) σ' (pc + 3) L (v.toList ++ rest)) :
    mv_V p l e R s m args below meth c G nL cells slots (mv_Q G below s mc ms PostC) σ pc L stk := fun H locs ls h1 h2 h3 T hT X => by
  have hcode : (Cond.code y bytes maxL ret).before args s = true := B.2.2.2.1 _ (hG _ (by rw [hw]; exact List.mem_cons_self)).1
  obtain ⟨mk, methM, hnamed, hmethM, hstM, habM⟩ := Cond.instanceMethod_spec hinst
  obtain ⟨methM', cM, hmethM', -, -, -, -, -, -, hsigM⟩ := Cond.code_spec hnamed hcode
  cases hmethM.symm.trans hmethM'
  obtain ⟨r0, z1, cellB, z2, z3, z4, -⟩ := h1 o _ (mv_wl_o σ hs)
  have hr0 : r0 = (C, T0, N0) := Option.some.inj (z1.symm.trans hcl)
  subst hr0
  obtain ⟨-, hfc, -⟩ := B.2.2.2.2.1.1 ci _ hcl
  have hcls : s.vm.findClass C = some cellB.cls := by rw [z3]; exact hfc
  obtain ⟨c2, r2, m2, q1, q2, q3, q4, kP, hkP, hkPi⟩ := Cond.selects_spec hsel
  cases hcls.symm.trans q1
  cases (State.methodFound?_of_named hnamed ⟨hd.1, hd.2.1⟩).symm.trans q2
  cases hnamed.symm.trans q3
  have hselP : selectMethod e.platform s.vm cellB.cls mk = .method mk := by rw [Launch.admits_selectMethod X.admits]; exact q4
  have hlen : av.length = methM.sig.parameters.length := by
    have h9 := hd.2.2
    rw [hsigM] at h9
    exact hn.trans (Option.some.inj h9).symm
  obtain ⟨vm₁, X₁, hstep₁⟩ := X.invokevirtual B.1.1 B.2.2.1 hlink hnamed hmethM hstM hkP hkPi ⟨hd.1, hd.2.1⟩ (a := mv_al G o) (cell := cellB) (by rw [hT]; exact z2)
    (fun z h => by rw [h] at z4; cases z4) hselP hmethM habM hkP hkPi (g := F0 m pc ls stk) rfl (argsL := av) (rest := rest) hlen hstk (by rw [B.1.2]; exact hdg)
  have hU : (T.setVm vm₁).heap = H := hT
  have hcore := mv_core X₁ (g := F0 m pc ls rest) rfl (by rw [B.2.1]; exact h3.1) (ig := .invokevirtual index) (len := 3) (by rw [B.1.2]; exact hdg) (lv_room hr8) hN (X₁.named hnamed) (mv_cd B hG hw X₁.warmed (X₁.named hnamed))
    (word_at X₁.warmed (Or.inl (by first | rfl | simp [Cond.onTables, Cond.keeps, Cond.steady])) hini) hM (mv_pre B hG X₁.warmed _) (mv_S_of B hN hNs hU X₁.warmed h1 h2) hroom.1 hroom.2 hcell.1 hcell.2
  exact mv_backC B hU X₁ h2 h3 hcore (fun tg h => hstep₁ _ fun acts => by rw [doInvoke_state]; exact h) kt kn
end MTC
/-- the table of handlers, as the words tell it -/
def mt_tab (c : Code) (hh : List (Nat × Nat × Nat × Nat)) : Prop := c.exceptionTable.toList.map (fun h => (h.startPc, h.endPc, h.handlerPc, h.catchType)) = hh
section MTD
variable {p : Program} {l : Launch} {e : Env} {R : Room} {s : State} {m : MethodId} {args : Array Value} {below : List Frame} {meth : Method} {c : Code} {own X Y Z : String} {pc sp ep hp ct ct2 hp2 : Nat}
theorem mt_links (hown : s.vm.findClass own = some m.cls) (hlink : (Cond.classLink own ct Y).before args s = true) (pl : Platform) (hpl : pl.magicAccessors = ({} : Platform).magicAccessors) : ∃ cY dk kt, s.vm.findClass Y = some cY ∧ s.vm.ClassLinks pl m.cls ct cY ∧ s.vm.classes[m.cls]? = some dk ∧ s.vm.classes[cY]? = some kt ∧ (dk.openAt ct ∨ dk.resolved[ct]? = some (some (.cls cY))) ∧ s.rightAt m.cls ct (.cls cY) = true := by
  obtain ⟨c', hc', hcl⟩ := Cond.classLink_spec hown hlink pl hpl
  obtain ⟨dk, _, _, kt, hd, _, _, _, _, hkt, _, hopen⟩ := hcl.here
  exact ⟨c', dk, kt, hc', hcl, hd, hkt, hopen, State.rightAt_cls hcl⟩
theorem mt_covers {x : ExceptionTableEntry} (h1 : x.startPc = sp) (h2 : x.endPc = ep) (ha : sp ≤ pc) (hb : pc < ep) : covers x pc = true := by
  simp [covers, h1, h2, ha, hb]
/-- one handler, and the thrown object is of its class -/
theorem mt_H.one (hown : s.vm.findClass own = some m.cls) (ht : mt_tab c [(sp, ep, hp, ct)]) (ha : sp ≤ pc) (hb : pc < ep) (h0 : ct ≠ 0) (hlink : (Cond.classLink own ct Y).before args s = true) (hcast : (Cond.castable X Y).before args s = true) : mt_H p l e R s m args below meth c X pc hp := by
  intro T locs cells slots g a XS hX hg hpc
  obtain ⟨cell, x1, x2, x3, x4⟩ := hX
  have hpl : e.platform.magicAccessors = ({} : Platform).magicAccessors := by rw [XS.admits.platform]
  obtain ⟨cY, dk, kt, k1, k2, k3, k4, k5, k6⟩ := mt_links hown hlink e.platform hpl
  obtain ⟨cX, cY', j1, j2, j3⟩ := Cond.castable_spec hcast
  cases k1.symm.trans j2
  have hcX : cell.cls = cX := by
    rw [XS.warmed.alike.findClass, j1] at x4
    exact (Option.some.inj x4).symm
  obtain ⟨x, hx⟩ : ∃ x, c.exceptionTable.toList = [x] := by
    have h := congrArg List.length ht
    rw [List.length_map] at h
    exact List.length_eq_one_iff.mp h
  have hx2 : (x.startPc, x.endPc, x.handlerPc, x.catchType) = (sp, ep, hp, ct) := by
    have h := ht
    unfold mt_tab at h
    rw [hx] at h
    exact List.head_eq_of_cons_eq h
  have e1 : x.startPc = sp := congrArg Prod.fst hx2
  have e2 : x.endPc = ep := congrArg (fun z => z.2.1) hx2
  have e3 : x.handlerPc = hp := congrArg (fun z => z.2.2.1) hx2
  have e4 : x.catchType = ct := congrArg (fun z => z.2.2.2) hx2
  subst e4
  subst e3
  subst hg
  have hW : s.WarmedH (T.vm.noted g.method.cls x.catchType (.cls cY)) := XS.warmed.noted k3 k5 k6
  have hk : ∃ k, s.vm.classes[cX]? = some k := Vm.classAt_of_findClass j1
  obtain ⟨ks, hks⟩ := hk
  obtain ⟨ks', hks', -⟩ := hW.alike.2.2 _ _ hks
  obtain ⟨kt', hkt', -⟩ := hW.alike.2.2 _ _ k4
  have hv : ((T.setTop g).pushFrame (.throwing a)).vm = T.vm := Stand.throwing_vm T g a
  have hh : ((T.setTop g).pushFrame (.throwing a)).heap = T.heap := Stand.throwing_heap T g a
  refine ⟨T.vm.noted g.method.cls x.catchType (.cls cY), ?_, hW⟩
  have hf := FindsTo.one (e := e) (s := (T.setTop g).pushFrame (.throwing a)) (f := g) (a := a) (meth := meth) (code := c) (x := x) (c := cY) (cell := cell) (by rw [hv]; exact XS.method') XS.code hx (mt_covers e1 e2 (by omega) (by omega)) h0 (by rw [hv]; exact XS.warmed.classLinks k2) (by rw [hh]; exact x1) (fun k z => by rw [z] at x2; cases x2) ⟨ks', by rw [hv, hcX]; exact hks'⟩ ⟨kt', by rw [hv]; exact hkt'⟩ (by rw [hv, hW.alike.assignable, hcX]; exact j3)
  rw [hv] at hf
  exact hf
end MTD
section MTE
variable {p : Program} {l : Launch} {e : Env} {R : Room} {s : State} {m : MethodId} {args : Array Value} {below : List Frame} {meth : Method} {c : Code} {G : mv_G} {ws : List Cond} {own : String} {cc : ByteArray} {nL : Nat} {cells slots : Nat} {σ : mv_H} {pc : Nat} {L : List (Nat × Value)} {stk rest : List Value}
  {K : mv_T} {ws' wt' : List Cond} {rm' : Room} {y : MethodName} {bytes : ByteArray} {maxL index mc ms n : Nat} {ret : Option FieldType} {hh : List (Nat × Nat × Nat × Nat)} {av : List Value} {PostC : mv_O → mv_H → Prop}
theorem mv_cdW (B : mv_B p s m args meth c G ws own cc nL) (hG : GoodIn ws ws') (hw : ws' = Cond.codeWith y bytes maxL ret hh :: wt') {U : State} (hW : s.WarmedH U.vm) {mk : MethodId} (hn : U.methodNamed? y = some mk) : ∃ (methY : Method) (cY : Code), U.vm.method? mk = some methY ∧ methY.code = some cY ∧ cY.maxLocals = maxL := by
  have h : (Cond.codeWith y bytes maxL ret hh).before args U = true := pay_in B.2.2.2.1 hG _ (by rw [hw]; exact List.mem_cons_self) _ _ hW
  obtain ⟨m9, methY, cY, h0, h1, h2, -, h3, -⟩ := Cond.codeWith_spec h
  cases hn.symm.trans h0
  exact ⟨methY, cY, h1, h2, h3⟩
theorem mv_callVWi (B : mv_B p s m args meth c G ws own cc nL) (hN : mv_Tok K) (hNs : K (mv_A G s.heap.size) s s.heap) {C : String} {T0 : u_T} {N0 o ci : Nat} (hs : (mv_sh G)[o]? = some (.inl ci)) (hcl : (mv_cl G)[ci]? = some (C, T0, N0)) {P : Int32 → mv_H → Prop} (hM : mv_C l y ws' rm' G K (.ref (mv_al G o) :: av) σ (mv_Ri P)) (hw : ws' = Cond.codeWith y bytes maxL ret hh :: wt') (hG : GoodIn ws ws')
    (hlink : (Cond.methodLink own index y).before args s = true) (hinst : (Cond.instanceMethod y).before args s = true) (hsel : (Cond.selects C y y).before args s = true) (hini : (Cond.initialized y.cls).before args s = true)
    (hd : y.cls ≠ "java/lang/invoke/MethodHandle" ∧ y.cls ≠ "java/lang/invoke/VarHandle" ∧ (parseMethodDescriptor y.desc).map (fun d => d.parameters.length) = some n) (hn : av.length = n)
    (hdg : decode cc pc = .ok (.invokevirtual index, 3)) (hstk : stk = av.reverse ++ .ref (mv_al G o) :: rest) (hr8 : (rest.map fun v => v.category).sum ≤ 8) (hroom : rm'.frames + 1 ≤ R.frames ∧ 8 + (maxL + 11) + rm'.locals ≤ R.locals) (hcell : cells + rm'.cells ≤ R.cells ∧ slots + rm'.slots ≤ R.slots)
    (hmc : cells + rm'.cells ≤ mc ∧ slots + rm'.slots ≤ ms) (hout : ∀ x ∈ c.exceptionTable.toList, covers x pc = false)
    (kn : ∀ (v : Int32) (σ' : mv_H), P v σ' → mv_V p l e R s m args below meth c G nL (cells + rm'.cells) (slots + rm'.slots) (mv_Q G below s mc ms PostC) σ' (pc + 3) L (.int v :: rest)) :
    mv_V p l e R s m args below meth c G nL cells slots (mv_Q G below s mc ms PostC) σ pc L stk := fun H locs ls h1 h2 h3 T hT X => by
  have hcode : (Cond.codeWith y bytes maxL ret hh).before args s = true := B.2.2.2.1 _ (hG _ (by rw [hw]; exact List.mem_cons_self)).1
  obtain ⟨mk, methM, hnamed, hmethM, hstM, habM⟩ := Cond.instanceMethod_spec hinst
  obtain ⟨mk9, methM', cM, hn9, hmethM', -, -, -, -, -, -, hsigM⟩ := Cond.codeWith_spec hcode
  cases hnamed.symm.trans hn9
  cases hmethM.symm.trans hmethM'
  obtain ⟨r0, z1, cellB, z2, z3, z4, -⟩ := h1 o _ (mv_wl_o σ hs)
  have hr0 : r0 = (C, T0, N0) := Option.some.inj (z1.symm.trans hcl)
  subst hr0
  obtain ⟨-, hfc, -⟩ := B.2.2.2.2.1.1 ci _ hcl
  have hcls : s.vm.findClass C = some cellB.cls := by rw [z3]; exact hfc
  obtain ⟨c2, r2, m2, q1, q2, q3, q4, kP, hkP, hkPi⟩ := Cond.selects_spec hsel
  cases hcls.symm.trans q1
  cases (State.methodFound?_of_named hnamed ⟨hd.1, hd.2.1⟩).symm.trans q2
  cases hnamed.symm.trans q3
  have hselP : selectMethod e.platform s.vm cellB.cls mk = .method mk := by rw [Launch.admits_selectMethod X.admits]; exact q4
  have hlen : av.length = methM.sig.parameters.length := by
    have h9 := hd.2.2
    rw [hsigM] at h9
    exact hn.trans (Option.some.inj h9).symm
  obtain ⟨vm₁, X₁, hstep₁⟩ := X.invokevirtual B.1.1 B.2.2.1 hlink hnamed hmethM hstM hkP hkPi ⟨hd.1, hd.2.1⟩ (a := mv_al G o) (cell := cellB) (by rw [hT]; exact z2)
    (fun z h => by rw [h] at z4; cases z4) hselP hmethM habM hkP hkPi (g := F0 m pc ls stk) rfl (argsL := av) (rest := rest) hlen hstk (by rw [B.1.2]; exact hdg)
  have hU : (T.setVm vm₁).heap = H := hT
  have hcore := mv_core X₁ (g := F0 m pc ls rest) rfl (by rw [B.2.1]; exact h3.1) (ig := .invokevirtual index) (len := 3) (by rw [B.1.2]; exact hdg) (lv_room hr8) hN (X₁.named hnamed) (mv_cdW B hG hw X₁.warmed (X₁.named hnamed))
    (word_at X₁.warmed (Or.inl (by first | rfl | simp [Cond.onTables, Cond.keeps, Cond.steady])) hini) hM (mv_pre B hG X₁.warmed _) (mv_S_of B hN hNs hU X₁.warmed h1 h2) hroom.1 hroom.2 hcell.1 hcell.2
  exact mv_back B hU X₁ h2 h3 hcore (fun tg h => hstep₁ _ fun acts => by rw [doInvoke_state]; exact h) hmc.1 hmc.2 hout (fun x σ' h => by obtain ⟨_, h, _⟩ := h; cases h) (fun v σ' h => by
    obtain ⟨v, hv, h⟩ := h
    cases hv
    exact kn v σ' h)
theorem mv_callSWi (B : mv_B p s m args meth c G ws own cc nL) (hN : mv_Tok K) (hNs : K (mv_A G s.heap.size) s s.heap) {P : Int32 → mv_H → Prop} (hM : mv_C l y ws' rm' G K av σ (mv_Ri P)) (hw : ws' = Cond.codeWith y bytes maxL ret hh :: wt') (hG : GoodIn ws ws')
    (hlink : (Cond.methodLink own index y).before args s = true) (hstat : (Cond.static y).before args s = true) (hini : (Cond.initialized y.cls).before args s = true)
    (hd : y.cls ≠ "java/lang/invoke/MethodHandle" ∧ y.cls ≠ "java/lang/invoke/VarHandle" ∧ (parseMethodDescriptor y.desc).map (fun d => d.parameters.length) = some n) (hn : av.length = n)
    (hdg : decode cc pc = .ok (.invokestatic index, 3)) (hstk : stk = av.reverse ++ rest) (hr8 : (rest.map fun v => v.category).sum ≤ 8) (hroom : rm'.frames + 1 ≤ R.frames ∧ 8 + (maxL + 11) + rm'.locals ≤ R.locals) (hcell : cells + rm'.cells ≤ R.cells ∧ slots + rm'.slots ≤ R.slots)
    (hmc : cells + rm'.cells ≤ mc ∧ slots + rm'.slots ≤ ms) (hout : ∀ x ∈ c.exceptionTable.toList, covers x pc = false)
    (kn : ∀ (v : Int32) (σ' : mv_H), P v σ' → mv_V p l e R s m args below meth c G nL (cells + rm'.cells) (slots + rm'.slots) (mv_Q G below s mc ms PostC) σ' (pc + 3) L (.int v :: rest)) :
    mv_V p l e R s m args below meth c G nL cells slots (mv_Q G below s mc ms PostC) σ pc L stk := fun H locs ls h1 h2 h3 T hT X => by
  have hcode : (Cond.codeWith y bytes maxL ret hh).before args s = true := B.2.2.2.1 _ (hG _ (by rw [hw]; exact List.mem_cons_self)).1
  obtain ⟨mk, methM, cM, hnamed, hmethM, -, -, -, -, -, -, hsigM⟩ := Cond.codeWith_spec hcode
  have hstatic : methM.isStatic = true := Cond.static_spec hnamed hmethM hstat
  obtain ⟨kP, hkP, -⟩ := className_of_methodNamed hnamed
  have hinitP : kP.init = .initialized := Cond.initialized_spec (findClass_of_methodNamed hnamed) hkP hini
  have hlen : av.length = methM.sig.parameters.length := by
    have h9 := hd.2.2
    rw [hsigM] at h9
    exact hn.trans (Option.some.inj h9).symm
  obtain ⟨vm₁, X₁, hstep₁⟩ := X.invokestatic B.1.1 B.2.2.1 hlink hnamed hmethM hstatic hkP hinitP ⟨hd.1, hd.2.1⟩ (g := F0 m pc ls stk) rfl (argsL := av) (rest := rest) hlen hstk (by rw [B.1.2]; exact hdg)
  have hU : (T.setVm vm₁).heap = H := hT
  have hcore := mv_core X₁ (g := F0 m pc ls rest) rfl (by rw [B.2.1]; exact h3.1) (ig := .invokestatic index) (len := 3) (by rw [B.1.2]; exact hdg) (lv_room hr8) hN (X₁.named hnamed) (mv_cdW B hG hw X₁.warmed (X₁.named hnamed))
    (word_at X₁.warmed (Or.inl (by first | rfl | simp [Cond.onTables, Cond.keeps, Cond.steady])) hini) hM (mv_pre B hG X₁.warmed _) (mv_S_of B hN hNs hU X₁.warmed h1 h2) hroom.1 hroom.2 hcell.1 hcell.2
  exact mv_back B hU X₁ h2 h3 hcore (fun tg h => hstep₁ _ fun acts => by rw [doInvoke_state]; exact h) hmc.1 hmc.2 hout (fun x σ' h => by obtain ⟨_, h, _⟩ := h; cases h) (fun v σ' h => by
    obtain ⟨v, hv, h⟩ := h
    cases hv
    exact kn v σ' h)
end MTE
/-- a contract of a method with handlers -/
theorem mv_C.ofVW {l : Launch} {y : MethodName} {ws wall : List Cond} {rm : Room} {G : mv_G} {K : mv_T} {av : List Value} {σ : mv_H} {Post : mv_O → mv_H → Prop} {cc : ByteArray} {nL : Nat} {ret : Option FieldType} {hh : List (Nat × Nat × Nat × Nat)}
    (hy : plainFor y = true) (hw : ws = Cond.codeWith y cc nL ret hh :: wall) (hi : mv_inj G) (hL : (lg_sl av).length ≤ nL)
    (body : ∀ (p : Program) (e : Env) (s : State) (m : MethodId) (below : List Frame) (meth : Method) (c : Code), mv_B p s m av.toArray meth c G wall y.cls cc nL → K (mv_A G s.heap.size) s s.heap → meth.sig.returnType = ret → meth.name = y.name → mt_tab c hh →
      mv_V p l e rm s m av.toArray below meth c G nL 0 0 (mv_Q G below s rm.cells rm.slots Post) σ 0 (lv_args 0 av) []) : mv_C l y ws rm G K av σ Post := by
  refine MetFree.of_bodySF (code := cc) (maxLocals := nL) (ret := ret) hy ?_ ?_
  · intro args s m h hn
    obtain ⟨m9, meth, c, h0, h1, h2, h3, h4, -, h5, h6, -⟩ := Cond.codeWith_spec (atoms_spec (ws := ws) h _ (by rw [hw]; exact List.mem_cons_self))
    cases hn.symm.trans h0
    exact ⟨meth, c, h1, h2, h3, h4, h5, h6⟩
  · intro p e s m args below meth c s₁ B hml hP _
    obtain ⟨rfl, hP, hK, hN⟩ := hP
    have hh0 : s₁.heap = s.heap := by rw [B.state]; rfl
    have hts := atoms_spec (ws := ws) B.pre
    have hb : mv_B p s m av.toArray meth c G wall y.cls cc nL := ⟨⟨B.exec, B.bytes⟩, hml, findClass_of_methodNamed B.named, fun w h => hts w (by rw [hw]; exact List.mem_cons_of_mem _ h), hK, hi, B.notSynchronized⟩
    have hl := lv_entry av (n := nL) hL
    have htab : mt_tab c hh := by
      obtain ⟨m9, meth9, c9, q1, q2, q3, -, -, q6, -⟩ := Cond.codeWith_spec (hts _ (by rw [hw]; exact List.mem_cons_self))
      cases B.named.symm.trans q1
      cases B.method.symm.trans q2
      cases (Stand.of_body B).code.symm.trans q3
      exact q6
    have hV := body p e s m below meth c hb hN B.returns (name_of_methodNamed B.named B.method).1 htab s.heap [] _ hP va_S.rf hl
    obtain ⟨t, a1, o, b1, b2, b3⟩ := hV s₁ hh0 (Stand.of_body B)
    have he : entryFrame m av.toArray nL = F0 m 0 ((lg_sl av ++ List.replicate (nL - (lg_sl av).length) Slot.unset).toArray) [] := lg_entry_eq m av nL
    rw [← he] at a1
    exact ⟨t, o, a1, b1, b2, b3⟩
theorem mt_out {c : Code} {hh : List (Nat × Nat × Nat × Nat)} (h : mt_tab c hh) {pc : Nat} (hp : ∀ q ∈ hh, ¬ (q.1 ≤ pc ∧ pc < q.2.1)) : ∀ x ∈ c.exceptionTable.toList, covers x pc = false := fun x hx => by
  have h1 : (x.startPc, x.endPc, x.handlerPc, x.catchType) ∈ hh := by
    rw [← h]
    exact List.mem_map.mpr ⟨x, hx, rfl⟩
  have h2 := hp _ h1
  simp only [covers]
  by_cases a : x.startPc ≤ pc
  · by_cases b : pc < x.endPc
    · exact absurd ⟨a, b⟩ h2
    · simp [b]
  · simp [a]
