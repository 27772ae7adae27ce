/-! a call by contract: it comes back with a value, or with a throw -/
def mv_to (p : Program) (e : Env) (below : List Frame) (g : JFrame) (len : Nat) (mk : MethodId) (a : Array Value) (U T : State) (r : mv_O) : Prop := match r with
  | .inl v => Steps p.tables e below (doInvoke e (U.setTop g) [] mk a).1 (T.setTop { g with pc := g.pc + len, stack := v.toList ++ g.stack })
  | .inr x => mv_X x.1 x.2 T ∧ Steps p.tables e below (doInvoke e (U.setTop g) [] mk a).1 ((T.setTop g).pushFrame (.throwing x.2))
section MVK
variable {p : Program} {l : Launch} {e : Env} {R : Room} {s : State} {m : MethodId} {args : Array Value} {below : List Frame} {meth : Method} {c : Code} {G : mv_G} {cells slots : Nat} {σ : mv_H}
theorem mv_core {U : State} {Ls : List Loc} (X : Stand p l e R s m args below meth c U Ls cells slots) {g : JFrame} (hg : g.method = m) (hsize : g.locals.size = c.maxLocals) {ig : Instr} {len : Nat} (hdg : decode c.code g.pc = .ok (ig, len)) (hW : 2 * g.monitorRoom + (g.stack.map fun v => v.category).sum ≤ 8)
    {y : MethodName} {mk : MethodId} {av : List Value} {ws' : List Cond} {rm' : Room} {K : mv_T} {Post : mv_O → mv_H → Prop} {maxL : Nat} (hN : mv_Tok K) (hn : U.methodNamed? y = some mk) (hcd : ∃ (methY : Method) (cY : Code), U.vm.method? mk = some methY ∧ methY.code = some cY ∧ cY.maxLocals = maxL) (hini : (Cond.initialized y.cls).before av.toArray U = true)
    (hM : mv_C l y ws' rm' G K av σ Post) (hpre : (allAtoms ws').before av.toArray U = true) (hS : mv_S G K σ U) (hframes : rm'.frames + 1 ≤ R.frames) (hlocals : 8 + (maxL + 11) + rm'.locals ≤ R.locals) (hcells : cells + rm'.cells ≤ R.cells) (hslots : slots + rm'.slots ≤ R.slots) :
    ∃ (r : mv_O) (σ' : mv_H) (T' : State) (Lc : List Loc), Post r σ' ∧ va_P (mv_D G) (mv_cl G) (mv_wl G σ') T'.heap ∧ U.heap.size ≤ T'.heap.size ∧ (∀ q : Nat, q < U.heap.size → ¬ mv_A G U.heap.size q → T'.heap[q]? = U.heap[q]?) ∧
      Stand p l e R s m args below meth c T' (Ls ++ Lc) (cells + rm'.cells) (slots + rm'.slots) ∧ (∀ q ∈ Lc, mv_A G U.heap.size q.base) ∧ mv_to p e below g len mk av.toArray U T' r := by
  obtain ⟨methY, cY, hmY, hcY, hlY⟩ := hcd
  obtain ⟨kY, hkY, -⟩ := className_of_methodNamed hn
  have hinitY : kY.init = .initialized := Cond.initialized_spec (findClass_of_methodNamed hn) hkY hini
  have h : At U g.method c below := by rw [hg]; exact X.here
  have happ : (headSpec ws' rm').appliesLoose y e.platform (U.calling g mk av.toArray) = true :=
    Spec.appliesLoose_calling (g := g) h hdg hn hkY hinitY (X.room_calling (g := g) (R' := rm') hsize hmY hcY hframes (by rw [hlY]; omega) hcells hslots) hpre
  obtain ⟨mid, hmid⟩ := h.above
  have hfr : (U.setTop g).frames = (.java g :: mid) ++ below := by rw [State.frames_setTop' g h.top, hmid]; rfl
  have hS' : mv_S G K σ (U.calling g mk av.toArray) := ⟨hS.1, va_K.moved (u := U) (U := U.calling g mk av.toArray) (Vm.Alike.refl U.vm) hS.2.1, hN.1 _ U (U.calling g mk av.toArray) _ (State.WarmedH.refl U) hS.2.2⟩
  obtain ⟨o, s₂, hsteps, -, hend, r, σ', ho, hp, hP2, hF2, hW2, Lc, hsame, hLc⟩ := Steps.callFree hM p X.admits X.cas X.clock (acts := []) hfr happ ⟨rfl, hS'⟩ trivial
  rw [State.frames_setTop' g h.top] at hend
  have hF3 : va_F (mv_A G U.heap.size) (U.calling g mk av.toArray) s₂ := hF2
  have hLc3 : ∀ q ∈ Lc, mv_A G U.heap.size q.base := hLc
  obtain ⟨e2, q2, q3, q4, q5, q6⟩ := hsame
  have e3 : s₂ = ({ (U.calling g mk av.toArray).setFrames s₂.frames with heap := s₂.heap, slotsUsed := s₂.slotsUsed } : State).setVm s₂.vm := by
    have : s₂ = ({ s₂ with vm := (U.calling g mk av.toArray).vm } : State).setVm s₂.vm := rfl
    rw [show (({ s₂ with vm := (U.calling g mk av.toArray).vm } : State)) = _ from e2] at this
    exact this
  have hW' : U.WarmedH s₂.vm := hW2
  obtain ⟨g₀, hg0⟩ := Option.isSome_iff_exists.mp h.top
  obtain ⟨rr, hr⟩ := State.topJava?_eq_some.mp hg0
  have hr' : (({ U with heap := s₂.heap, slotsUsed := s₂.slotsUsed } : State).setVm s₂.vm).frames = .java g₀ :: rr := hr
  have hsm : U.sameButNew ({ U with heap := s₂.heap, slotsUsed := s₂.slotsUsed } : State) Lc rm'.cells rm'.slots := by
    refine ⟨?_, q2, q3, q4, q5, q6⟩
    obtain ⟨t, ht, -⟩ := State.frames_cons hr
    show ({ U with heap := s₂.heap, slotsUsed := s₂.slotsUsed } : State) = { U.setFrames U.frames with heap := s₂.heap, slotsUsed := s₂.slotsUsed }
    rw [State.setFrames_self ht]
  subst hg
  have XT : Stand p l e R s g.method args below meth c (({ U with heap := s₂.heap, slotsUsed := s₂.slotsUsed } : State).setVm s₂.vm) (Ls ++ Lc) (cells + rm'.cells) (slots + rm'.slots) :=
    ⟨X.admits, X.cas, X.clock, X.frames, X.room, X.hears, X.method, X.code, (X.here.setHeapUsed s₂.heap s₂.slotsUsed).setVm hW'.alike, X.tail, State.WarmedH.trans X.warmed hW', X.limits, X.bytes, X.same.trans (hsm.setVm s.vm)⟩
  refine ⟨r, σ', ({ U with heap := s₂.heap, slotsUsed := s₂.slotsUsed } : State).setVm s₂.vm, Lc, hp, hP2, hF3.1, hF3.2, XT, hLc3, ?_⟩
  cases r with
  | inl v =>
    have ho' : o = .returned v := ho
    subst ho'
    obtain ⟨c₂, i₂, len₂, hc₂, hd₂, hf₂⟩ := hend
    have hcc : c₂ = c := by
      have h1 : s₂.code? g.method = U.code? g.method := by
        rw [State.code?_eq, State.code?_eq, hW'.alike.method?]
      exact Option.some.inj (hc₂.symm.trans (h1.trans h.code))
    subst hcc
    have hlen : len₂ = len := by rw [hdg] at hd₂; cases hd₂; rfl
    subst hlen
    have hs₂ : s₂ = (({ U with heap := s₂.heap, slotsUsed := s₂.slotsUsed } : State).setVm s₂.vm).setTop { g with pc := g.pc + len₂, stack := v.toList ++ g.stack } := by
      refine e3.trans ?_
      rw [hf₂, State.calling_eq h.top, State.setFrames_setFrames, State.setTop_of_frames _ hr', hr]
      rfl
    show Steps p.tables e below _ ((({ U with heap := s₂.heap, slotsUsed := s₂.slotsUsed } : State).setVm s₂.vm).setTop { g with pc := g.pc + len₂, stack := v.toList ++ g.stack })
    rw [← hs₂]
    exact hsteps
  | inr x =>
    obtain ⟨ho', cell, x1, x2, x3, x4⟩ := ho
    subst ho'
    have hf₂ : s₂.frames = .throwing x.2 :: .java g :: U.frames.tail := hend
    have hs₂ : s₂ = ((({ U with heap := s₂.heap, slotsUsed := s₂.slotsUsed } : State).setVm s₂.vm).setTop g).pushFrame (.throwing x.2) := by
      refine e3.trans ?_
      rw [hf₂, State.calling_eq h.top, State.setFrames_setFrames, State.pushFrame, State.frames_setTop _ hr', State.setTop_of_frames _ hr', State.setFrames_setFrames, hr]
      rfl
    refine ⟨⟨cell, x1, x2, x3, x4⟩, ?_⟩
    show Steps p.tables e below _ (((({ U with heap := s₂.heap, slotsUsed := s₂.slotsUsed } : State).setVm s₂.vm).setTop g).pushFrame (.throwing x.2))
    rw [← hs₂]
    exact hsteps
end MVK
section MVD
variable {p : Program} {l : Launch} {e : Env} {R : Room} {s : State} {m : MethodId} {args : Array Value} {below : List Frame} {meth : Method} {c : Code} {G : mv_G} {ws : List Cond} {own : String} {cc : ByteArray} {nL : Nat} {cells slots : Nat} {σ : mv_H} {pc : Nat} {L : List (Nat × Value)} {stk rest : List Value}
  {K : mv_T} {ws' wt' : List Cond} {rm' : Room} {y : MethodName} {bytes : ByteArray} {maxL index mc ms n : Nat} {ret : Option FieldType} {av : List Value} {Post PostC : mv_O → mv_H → Prop}
/-- behind the call: on with the value, or out with the throw -/
theorem mv_back {T U : State} {H : Heap} {locs : List Loc} {ls : Array Slot} {mk : MethodId} (B : mv_B p s m args meth c G ws own cc nL) (hU : U.heap = H) (X : Stand p l e R s m args below meth c U locs cells slots) (h2 : va_S (mv_A G s.heap.size) s.heap H locs) (h3 : lv_has ls nL L)
    (hcore : ∃ (r : mv_O) (σ' : mv_H) (T' : State) (Lc : List Loc), Post r σ' ∧ va_P (mv_D G) (mv_cl G) (mv_wl G σ') T'.heap ∧ U.heap.size ≤ T'.heap.size ∧ (∀ q : Nat, q < U.heap.size → ¬ mv_A G U.heap.size q → T'.heap[q]? = U.heap[q]?) ∧
      Stand p l e R s m args below meth c T' (locs ++ Lc) (cells + rm'.cells) (slots + rm'.slots) ∧ (∀ q ∈ Lc, mv_A G U.heap.size q.base) ∧ mv_to p e below (F0 m pc ls rest) 3 mk av.toArray U T' r)
    (hstep : ∀ tg, Steps p.tables e below (doInvoke e (U.setTop (F0 m pc ls rest)) [] mk av.toArray).1 tg → Steps p.tables e below (T.setTop (F0 m pc ls stk)) tg)
    (hc : cells + rm'.cells ≤ mc) (hs : slots + rm'.slots ≤ ms) (hout : ∀ x ∈ c.exceptionTable.toList, covers x pc = false) (kt : ∀ (x : String × Nat) (σ' : mv_H), Post (.inr x) σ' → PostC (.inr x) σ')
    (kn : ∀ (v : Option Value) (σ' : mv_H), Post (.inl v) σ' → mv_V p l e R s m args below meth c G nL (cells + rm'.cells) (slots + rm'.slots) (mv_Q G below s mc ms PostC) σ' (pc + 3) L (v.toList ++ rest)) :
    ∃ t, Steps p.tables e below (T.setTop (F0 m pc ls stk)) t ∧ mv_Q G below s mc ms PostC t := by
  obtain ⟨r, σ', T', Lc, hp, hP, hz, hk, X', hL, hto⟩ := hcore
  subst hU
  have up : ∀ q, mv_A G U.heap.size q → mv_A G s.heap.size q := fun q h => by
    rcases h with h | h
    · exact Or.inl h
    · exact Or.inr (Nat.le_trans h2.1 h)
  have hS : va_S (mv_A G s.heap.size) s.heap T'.heap (locs ++ Lc) := ⟨Nat.le_trans h2.1 hz, fun q g1 g2 => (hk q (Nat.lt_of_lt_of_le g1 h2.1) (fun z => g2 (up q z))).trans (h2.2.1 q g1 g2), fun q hq => by
    rcases List.mem_append.mp hq with h | h
    · exact h2.2.2 q h
    · exact up _ (hL q h)⟩
  cases r with
  | inl v =>
    obtain ⟨t, a1, b1⟩ := kn v σ' hp T'.heap _ ls hP hS h3 T' rfl X'
    exact ⟨t, hstep t (Steps.trans hto a1), b1⟩
  | inr x =>
    obtain ⟨⟨cell, x1, x2, x3, x4⟩, hto⟩ := hto
    obtain ⟨w1, w2, w3, w4, w5⟩ := X'.leaveThrown x.2 (g := F0 m pc ls rest) rfl rfl rfl hout B.2.2.2.2.2.2
    have hh : (T'.setFrames (.throwing x.2 :: below)).heap = T'.heap := rfl
    exact ⟨_, hstep _ (Steps.trans hto w1), .threw x.2, w2, w3, .inr x, σ', ⟨rfl, cell, x1, x2, x3, x4⟩, kt x σ' hp, hP, hS.F hh, w4, _, w5.mono hc hs, hS.2.2⟩
theorem mv_S_of (B : mv_B p s m args meth c G ws own cc nL) (hN : mv_Tok K) (hNs : K (mv_A G s.heap.size) s s.heap) {U : State} {H : Heap} {locs : List Loc} (hU : U.heap = H) (hW : s.WarmedH U.vm) (hP : va_P (mv_D G) (mv_cl G) (mv_wl G σ) H) (h2 : va_S (mv_A G s.heap.size) s.heap H locs) : mv_S G K σ U := by
  subst hU
  refine ⟨hP, va_K.moved hW.alike B.2.2.2.2.1, hN.1 _ s U _ hW (hN.2.2 _ _ _ _ (hN.2.1 _ _ _ _ hNs h2.2.1) (fun q h => ?_))⟩
  rcases h with h | h
  · exact Or.inl h
  · exact Or.inr (Nat.le_trans h2.1 h)
theorem mv_pre (B : mv_B p s m args meth c G ws own cc nL) (hG : GoodIn ws ws') {U : State} (hW : s.WarmedH U.vm) (a : Array Value) : (allAtoms ws').before a U = true :=
  atoms_intro fun w hw => pay_in B.2.2.2.1 hG w hw _ _ hW
theorem mv_cd (B : mv_B p s m args meth c G ws own cc nL) (hG : GoodIn ws ws') (hw : ws' = Cond.code y bytes maxL ret :: wt') {U : State} (hW : s.WarmedH U.vm) {mk : MethodId} (hn : U.methodNamed? y = some mk) : ∃ (methY : Method) (cY : Code), U.vm.method? mk = some methY ∧ methY.code = some cY ∧ cY.maxLocals = maxL := by
  have h : (Cond.code y bytes maxL ret).before args U = true := pay_in B.2.2.2.1 hG _ (by rw [hw]; exact List.mem_cons_self) _ _ hW
  obtain ⟨methY, cY, h1, h2, -, h3, -⟩ := Cond.code_spec hn h
  exact ⟨methY, cY, h1, h2, h3⟩
theorem mv_callS (B : mv_B p s m args meth c G ws own cc nL) (hN : mv_Tok K) (hNs : K (mv_A G s.heap.size) s s.heap) (hM : mv_C l y ws' rm' G K av σ Post) (hw : ws' = Cond.code y bytes maxL ret :: wt') (hG : GoodIn ws ws')
    (hlink : (Cond.methodLink own index y).before args s = true) (hstat : (Cond.static y).before args s = true) (hini : (Cond.initialized y.cls).before args s = true)
    (hd : y.cls ≠ "java/lang/invoke/MethodHandle" ∧ y.cls ≠ "java/lang/invoke/VarHandle" ∧ (parseMethodDescriptor y.desc).map (fun d => d.parameters.length) = some n) (hn : av.length = n)
    (hdg : decode cc pc = .ok (.invokestatic index, 3)) (hstk : stk = av.reverse ++ rest) (hr8 : (rest.map fun v => v.category).sum ≤ 8) (hroom : rm'.frames + 1 ≤ R.frames ∧ 8 + (maxL + 11) + rm'.locals ≤ R.locals) (hcell : cells + rm'.cells ≤ R.cells ∧ slots + rm'.slots ≤ R.slots)
    (hmc : cells + rm'.cells ≤ mc ∧ slots + rm'.slots ≤ ms) (hout : ∀ x ∈ c.exceptionTable.toList, covers x pc = false) (kt : ∀ (x : String × Nat) (σ' : mv_H), Post (.inr x) σ' → PostC (.inr x) σ')
    (kn : ∀ (v : Option Value) (σ' : mv_H), Post (.inl v) σ' → mv_V p l e R s m args below meth c G nL (cells + rm'.cells) (slots + rm'.slots) (mv_Q G below s mc ms PostC) σ' (pc + 3) L (v.toList ++ rest)) :
    mv_V p l e R s m args below meth c G nL cells slots (mv_Q G below s mc ms PostC) σ pc L stk := fun H locs ls h1 h2 h3 T hT X => by
  have hcode : (Cond.code y bytes maxL ret).before args s = true := B.2.2.2.1 _ (hG _ (by rw [hw]; exact List.mem_cons_self)).1
  obtain ⟨mk, hnamed⟩ := Cond.code_named hcode
  obtain ⟨methM, cM, hmethM, -, -, -, -, -, -, hsigM⟩ := Cond.code_spec hnamed hcode
  have hstatic : methM.isStatic = true := Cond.static_spec hnamed hmethM hstat
  obtain ⟨kP, hkP, -⟩ := className_of_methodNamed hnamed
  have hinitP : kP.init = .initialized := Cond.initialized_spec (findClass_of_methodNamed hnamed) hkP hini
  have hlen : av.length = methM.sig.parameters.length := by
    have h9 := hd.2.2
    rw [hsigM] at h9
    exact hn.trans (Option.some.inj h9).symm
  obtain ⟨vm₁, X₁, hstep₁⟩ := X.invokestatic B.1.1 B.2.2.1 hlink hnamed hmethM hstatic hkP hinitP ⟨hd.1, hd.2.1⟩ (g := F0 m pc ls stk) rfl (argsL := av) (rest := rest) hlen hstk (by rw [B.1.2]; exact hdg)
  have hU : (T.setVm vm₁).heap = H := hT
  have hcore := mv_core X₁ (g := F0 m pc ls rest) rfl (by rw [B.2.1]; exact h3.1) (ig := .invokestatic index) (len := 3) (by rw [B.1.2]; exact hdg) (lv_room hr8) hN (X₁.named hnamed) (mv_cd B hG hw X₁.warmed (X₁.named hnamed))
    (word_at X₁.warmed (Or.inl (by first | rfl | simp [Cond.onTables, Cond.keeps, Cond.steady])) hini) hM (mv_pre B hG X₁.warmed _) (mv_S_of B hN hNs hU X₁.warmed h1 h2) hroom.1 hroom.2 hcell.1 hcell.2
  exact mv_back B hU X₁ h2 h3 hcore (fun tg h => hstep₁ _ fun acts => by rw [doInvoke_state]; exact h) hmc.1 hmc.2 hout kt kn
theorem mv_callV (B : mv_B p s m args meth c G ws own cc nL) (hN : mv_Tok K) (hNs : K (mv_A G s.heap.size) s s.heap) {C : String} {T0 : u_T} {N0 o ci : Nat} (hs : (mv_sh G)[o]? = some (.inl ci)) (hcl : (mv_cl G)[ci]? = some (C, T0, N0)) (hM : mv_C l y ws' rm' G K (.ref (mv_al G o) :: av) σ Post) (hw : ws' = Cond.code y bytes maxL ret :: wt') (hG : GoodIn ws ws')
    (hlink : (Cond.methodLink own index y).before args s = true) (hinst : (Cond.instanceMethod y).before args s = true) (hsel : (Cond.selects C y y).before args s = true) (hini : (Cond.initialized y.cls).before args s = true)
    (hd : y.cls ≠ "java/lang/invoke/MethodHandle" ∧ y.cls ≠ "java/lang/invoke/VarHandle" ∧ (parseMethodDescriptor y.desc).map (fun d => d.parameters.length) = some n) (hn : av.length = n)
    (hdg : decode cc pc = .ok (.invokevirtual index, 3)) (hstk : stk = av.reverse ++ .ref (mv_al G o) :: rest) (hr8 : (rest.map fun v => v.category).sum ≤ 8) (hroom : rm'.frames + 1 ≤ R.frames ∧ 8 + (maxL + 11) + rm'.locals ≤ R.locals) (hcell : cells + rm'.cells ≤ R.cells ∧ slots + rm'.slots ≤ R.slots)
    (hmc : cells + rm'.cells ≤ mc ∧ slots + rm'.slots ≤ ms) (hout : ∀ x ∈ c.exceptionTable.toList, covers x pc = false) (kt : ∀ (x : String × Nat) (σ' : mv_H), Post (.inr x) σ' → PostC (.inr x) σ')
    (kn : ∀ (v : Option Value) (σ' : mv_H), Post (.inl v) σ' → mv_V p l e R s m args below meth c G nL (cells + rm'.cells) (slots + rm'.slots) (mv_Q G below s mc ms PostC) σ' (pc + 3) L (v.toList ++ rest)) :
    mv_V p l e R s m args below meth c G nL cells slots (mv_Q G below s mc ms PostC) σ pc L stk := fun H locs ls h1 h2 h3 T hT X => by
  have hcode : (Cond.code y bytes maxL ret).before args s = true := B.2.2.2.1 _ (hG _ (by rw [hw]; exact List.mem_cons_self)).1
  obtain ⟨mk, methM, hnamed, hmethM, hstM, habM⟩ := Cond.instanceMethod_spec hinst
  obtain ⟨methM', cM, hmethM', -, -, -, -, -, -, hsigM⟩ := Cond.code_spec hnamed hcode
  cases hmethM.symm.trans hmethM'
  obtain ⟨r0, z1, cellB, z2, z3, z4, -⟩ := h1 o _ (mv_wl_o σ hs)
  have hr0 : r0 = (C, T0, N0) := Option.some.inj (z1.symm.trans hcl)
  subst hr0
  obtain ⟨-, hfc, -⟩ := B.2.2.2.2.1.1 ci _ hcl
  have hcls : s.vm.findClass C = some cellB.cls := by rw [z3]; exact hfc
  obtain ⟨c2, r2, m2, q1, q2, q3, q4, kP, hkP, hkPi⟩ := Cond.selects_spec hsel
  cases hcls.symm.trans q1
  cases (State.methodFound?_of_named hnamed ⟨hd.1, hd.2.1⟩).symm.trans q2
  cases hnamed.symm.trans q3
  have hselP : selectMethod e.platform s.vm cellB.cls mk = .method mk := by rw [Launch.admits_selectMethod X.admits]; exact q4
  have hlen : av.length = methM.sig.parameters.length := by
    have h9 := hd.2.2
    rw [hsigM] at h9
    exact hn.trans (Option.some.inj h9).symm
  obtain ⟨vm₁, X₁, hstep₁⟩ := X.invokevirtual B.1.1 B.2.2.1 hlink hnamed hmethM hstM hkP hkPi ⟨hd.1, hd.2.1⟩ (a := mv_al G o) (cell := cellB) (by rw [hT]; exact z2)
    (fun z h => by rw [h] at z4; cases z4) hselP hmethM habM hkP hkPi (g := F0 m pc ls stk) rfl (argsL := av) (rest := rest) hlen hstk (by rw [B.1.2]; exact hdg)
  have hU : (T.setVm vm₁).heap = H := hT
  have hcore := mv_core X₁ (g := F0 m pc ls rest) rfl (by rw [B.2.1]; exact h3.1) (ig := .invokevirtual index) (len := 3) (by rw [B.1.2]; exact hdg) (lv_room hr8) hN (X₁.named hnamed) (mv_cd B hG hw X₁.warmed (X₁.named hnamed))
    (word_at X₁.warmed (Or.inl (by first | rfl | simp [Cond.onTables, Cond.keeps, Cond.steady])) hini) hM (mv_pre B hG X₁.warmed _) (mv_S_of B hN hNs hU X₁.warmed h1 h2) hroom.1 hroom.2 hcell.1 hcell.2
  exact mv_back B hU X₁ h2 h3 hcore (fun tg h => hstep₁ _ fun acts => by rw [doInvoke_state]; exact h) hmc.1 hmc.2 hout kt kn
/-- the receiver lies outside the world -/
theorem mv_callVO (B : mv_B p s m args meth c G ws own cc nL) (hN : mv_Tok K) (hNs : K (mv_A G s.heap.size) s s.heap) {C : String} {ro : Nat} (hO : va_O C ro (mv_A G s.heap.size) s s.heap) (hM : mv_C l y ws' rm' G K (.ref ro :: av) σ Post) (hw : ws' = Cond.code y bytes maxL ret :: wt') (hG : GoodIn ws ws')
    (hlink : (Cond.methodLink own index y).before args s = true) (hinst : (Cond.instanceMethod y).before args s = true) (hsel : (Cond.selects C y y).before args s = true) (hini : (Cond.initialized y.cls).before args s = true)
    (hd : y.cls ≠ "java/lang/invoke/MethodHandle" ∧ y.cls ≠ "java/lang/invoke/VarHandle" ∧ (parseMethodDescriptor y.desc).map (fun d => d.parameters.length) = some n) (hn : av.length = n)
    (hdg : decode cc pc = .ok (.invokevirtual index, 3)) (hstk : stk = av.reverse ++ .ref ro :: rest) (hr8 : (rest.map fun v => v.category).sum ≤ 8) (hroom : rm'.frames + 1 ≤ R.frames ∧ 8 + (maxL + 11) + rm'.locals ≤ R.locals) (hcell : cells + rm'.cells ≤ R.cells ∧ slots + rm'.slots ≤ R.slots)
    (hmc : cells + rm'.cells ≤ mc ∧ slots + rm'.slots ≤ ms) (hout : ∀ x ∈ c.exceptionTable.toList, covers x pc = false) (kt : ∀ (x : String × Nat) (σ' : mv_H), Post (.inr x) σ' → PostC (.inr x) σ')
    (kn : ∀ (v : Option Value) (σ' : mv_H), Post (.inl v) σ' → mv_V p l e R s m args below meth c G nL (cells + rm'.cells) (slots + rm'.slots) (mv_Q G below s mc ms PostC) σ' (pc + 3) L (v.toList ++ rest)) :
    mv_V p l e R s m args below meth c G nL cells slots (mv_Q G below s mc ms PostC) σ pc L stk := fun H locs ls h1 h2 h3 T hT X => by
  have hcode : (Cond.code y bytes maxL ret).before args s = true := B.2.2.2.1 _ (hG _ (by rw [hw]; exact List.mem_cons_self)).1
  obtain ⟨mk, methM, hnamed, hmethM, hstM, habM⟩ := Cond.instanceMethod_spec hinst
  obtain ⟨methM', cM, hmethM', -, -, -, -, -, -, hsigM⟩ := Cond.code_spec hnamed hcode
  cases hmethM.symm.trans hmethM'
  obtain ⟨cellB, z2, z4, hcls⟩ := va_Orecv hO h2
  obtain ⟨c2, r2, m2, q1, q2, q3, q4, kP, hkP, hkPi⟩ := Cond.selects_spec hsel
  cases hcls.symm.trans q1
  cases (State.methodFound?_of_named hnamed ⟨hd.1, hd.2.1⟩).symm.trans q2
  cases hnamed.symm.trans q3
  have hselP : selectMethod e.platform s.vm cellB.cls mk = .method mk := by rw [Launch.admits_selectMethod X.admits]; exact q4
  have hlen : av.length = methM.sig.parameters.length := by
    have h9 := hd.2.2
    rw [hsigM] at h9
    exact hn.trans (Option.some.inj h9).symm
  obtain ⟨vm₁, X₁, hstep₁⟩ := X.invokevirtual B.1.1 B.2.2.1 hlink hnamed hmethM hstM hkP hkPi ⟨hd.1, hd.2.1⟩ (a := ro) (cell := cellB) (by rw [hT]; exact z2)
    (fun z h => by rw [h] at z4; cases z4) hselP hmethM habM hkP hkPi (g := F0 m pc ls stk) rfl (argsL := av) (rest := rest) hlen hstk (by rw [B.1.2]; exact hdg)
  have hU : (T.setVm vm₁).heap = H := hT
  have hcore := mv_core X₁ (g := F0 m pc ls rest) rfl (by rw [B.2.1]; exact h3.1) (ig := .invokevirtual index) (len := 3) (by rw [B.1.2]; exact hdg) (lv_room hr8) hN (X₁.named hnamed) (mv_cd B hG hw X₁.warmed (X₁.named hnamed))
    (word_at X₁.warmed (Or.inl (by first | rfl | simp [Cond.onTables, Cond.keeps, Cond.steady])) hini) hM (mv_pre B hG X₁.warmed _) (mv_S_of B hN hNs hU X₁.warmed h1 h2) hroom.1 hroom.2 hcell.1 hcell.2
  exact mv_back B hU X₁ h2 h3 hcore (fun tg h => hstep₁ _ fun acts => by rw [doInvoke_state]; exact h) hmc.1 hmc.2 hout kt kn
end MVD
