/-! contracts of methods that return: an int, a long, nothing; calls of them -/
def mv_Ri (P : Int32 → mv_H → Prop) : mv_O → mv_H → Prop := fun r σ => ∃ v : Int32, r = .inl (some (.int v)) ∧ P v σ
def mv_Rl (P : Int64 → mv_H → Prop) : mv_O → mv_H → Prop := fun r σ => ∃ v : Int64, r = .inl (some (.long v)) ∧ P v σ
def mv_Rv (P : mv_H → Prop) : mv_O → mv_H → Prop := fun r σ => r = .inl none ∧ P σ
section MVW
variable {p : Program} {l : Launch} {e : Env} {R : Room} {s : State} {m : MethodId} {args : Array Value} {below : List Frame} {meth : Method} {c : Code} {G : mv_G} {ws : List Cond} {own : String} {cc : ByteArray} {nL : Nat} {cells slots : Nat} {σ : mv_H} {pc : Nat} {L : List (Nat × Value)} {stk rest : List Value}
  {K : mv_T} {ws' wt' : List Cond} {rm' : Room} {y : MethodName} {bytes : ByteArray} {maxL index mc ms n : Nat} {ret : Option FieldType} {av : List Value} {PostC : mv_O → mv_H → Prop}
theorem mv_callSi (B : mv_B p s m args meth c G ws own cc nL) (hN : mv_Tok K) (hNs : K (mv_A G s.heap.size) s s.heap) {P : Int32 → mv_H → Prop} (hM : mv_C l y ws' rm' G K av σ (mv_Ri P)) (hw : ws' = Cond.code y bytes maxL ret :: wt') (hG : GoodIn ws ws')
    (hlink : (Cond.methodLink own index y).before args s = true) (hstat : (Cond.static y).before args s = true) (hini : (Cond.initialized y.cls).before args s = true)
    (hd : y.cls ≠ "java/lang/invoke/MethodHandle" ∧ y.cls ≠ "java/lang/invoke/VarHandle" ∧ (parseMethodDescriptor y.desc).map (fun d => d.parameters.length) = some n) (hn : av.length = n)
    (hdg : decode cc pc = .ok (.invokestatic index, 3)) (hstk : stk = av.reverse ++ rest) (hr8 : (rest.map fun v => v.category).sum ≤ 8) (hroom : rm'.frames + 1 ≤ R.frames ∧ 8 + (maxL + 11) + rm'.locals ≤ R.locals) (hcell : cells + rm'.cells ≤ R.cells ∧ slots + rm'.slots ≤ R.slots)
    (hmc : cells + rm'.cells ≤ mc ∧ slots + rm'.slots ≤ ms) (hout : ∀ x ∈ c.exceptionTable.toList, covers x pc = false)
    (kn : ∀ (v : Int32) (σ' : mv_H), P v σ' → mv_V p l e R s m args below meth c G nL (cells + rm'.cells) (slots + rm'.slots) (mv_Q G below s mc ms PostC) σ' (pc + 3) L (.int v :: rest)) :
    mv_V p l e R s m args below meth c G nL cells slots (mv_Q G below s mc ms PostC) σ pc L stk :=
  mv_callS B hN hNs hM hw hG hlink hstat hini hd hn hdg hstk hr8 hroom hcell hmc hout (fun x σ' h => by obtain ⟨_, h, _⟩ := h; cases h) (fun v σ' h => by
    obtain ⟨v, hv, h⟩ := h
    cases hv
    exact kn v σ' h)
theorem mv_callVi (B : mv_B p s m args meth c G ws own cc nL) (hN : mv_Tok K) (hNs : K (mv_A G s.heap.size) s s.heap) {C : String} {T0 : u_T} {N0 o ci : Nat} (hs : (mv_sh G)[o]? = some (.inl ci)) (hcl : (mv_cl G)[ci]? = some (C, T0, N0)) {P : Int32 → mv_H → Prop} (hM : mv_C l y ws' rm' G K (.ref (mv_al G o) :: av) σ (mv_Ri P)) (hw : ws' = Cond.code y bytes maxL ret :: wt') (hG : GoodIn ws ws')
    (hlink : (Cond.methodLink own index y).before args s = true) (hinst : (Cond.instanceMethod y).before args s = true) (hsel : (Cond.selects C y y).before args s = true) (hini : (Cond.initialized y.cls).before args s = true)
    (hd : y.cls ≠ "java/lang/invoke/MethodHandle" ∧ y.cls ≠ "java/lang/invoke/VarHandle" ∧ (parseMethodDescriptor y.desc).map (fun d => d.parameters.length) = some n) (hn : av.length = n)
    (hdg : decode cc pc = .ok (.invokevirtual index, 3)) (hstk : stk = av.reverse ++ .ref (mv_al G o) :: rest) (hr8 : (rest.map fun v => v.category).sum ≤ 8) (hroom : rm'.frames + 1 ≤ R.frames ∧ 8 + (maxL + 11) + rm'.locals ≤ R.locals) (hcell : cells + rm'.cells ≤ R.cells ∧ slots + rm'.slots ≤ R.slots)
    (hmc : cells + rm'.cells ≤ mc ∧ slots + rm'.slots ≤ ms) (hout : ∀ x ∈ c.exceptionTable.toList, covers x pc = false)
    (kn : ∀ (v : Int32) (σ' : mv_H), P v σ' → mv_V p l e R s m args below meth c G nL (cells + rm'.cells) (slots + rm'.slots) (mv_Q G below s mc ms PostC) σ' (pc + 3) L (.int v :: rest)) :
    mv_V p l e R s m args below meth c G nL cells slots (mv_Q G below s mc ms PostC) σ pc L stk :=
  mv_callV B hN hNs hs hcl hM hw hG hlink hinst hsel hini hd hn hdg hstk hr8 hroom hcell hmc hout (fun x σ' h => by obtain ⟨_, h, _⟩ := h; cases h) (fun v σ' h => by
    obtain ⟨v, hv, h⟩ := h
    cases hv
    exact kn v σ' h)
theorem mv_callVOi (B : mv_B p s m args meth c G ws own cc nL) (hN : mv_Tok K) (hNs : K (mv_A G s.heap.size) s s.heap) {C : String} {ro : Nat} (hO : va_O C ro (mv_A G s.heap.size) s s.heap) {P : Int32 → mv_H → Prop} (hM : mv_C l y ws' rm' G K (.ref ro :: av) σ (mv_Ri P)) (hw : ws' = Cond.code y bytes maxL ret :: wt') (hG : GoodIn ws ws')
    (hlink : (Cond.methodLink own index y).before args s = true) (hinst : (Cond.instanceMethod y).before args s = true) (hsel : (Cond.selects C y y).before args s = true) (hini : (Cond.initialized y.cls).before args s = true)
    (hd : y.cls ≠ "java/lang/invoke/MethodHandle" ∧ y.cls ≠ "java/lang/invoke/VarHandle" ∧ (parseMethodDescriptor y.desc).map (fun d => d.parameters.length) = some n) (hn : av.length = n)
    (hdg : decode cc pc = .ok (.invokevirtual index, 3)) (hstk : stk = av.reverse ++ .ref ro :: rest) (hr8 : (rest.map fun v => v.category).sum ≤ 8) (hroom : rm'.frames + 1 ≤ R.frames ∧ 8 + (maxL + 11) + rm'.locals ≤ R.locals) (hcell : cells + rm'.cells ≤ R.cells ∧ slots + rm'.slots ≤ R.slots)
    (hmc : cells + rm'.cells ≤ mc ∧ slots + rm'.slots ≤ ms) (hout : ∀ x ∈ c.exceptionTable.toList, covers x pc = false)
    (kn : ∀ (v : Int32) (σ' : mv_H), P v σ' → mv_V p l e R s m args below meth c G nL (cells + rm'.cells) (slots + rm'.slots) (mv_Q G below s mc ms PostC) σ' (pc + 3) L (.int v :: rest)) :
    mv_V p l e R s m args below meth c G nL cells slots (mv_Q G below s mc ms PostC) σ pc L stk :=
  mv_callVO B hN hNs hO hM hw hG hlink hinst hsel hini hd hn hdg hstk hr8 hroom hcell hmc hout (fun x σ' h => by obtain ⟨_, h, _⟩ := h; cases h) (fun v σ' h => by
    obtain ⟨v, hv, h⟩ := h
    cases hv
    exact kn v σ' h)
theorem mv_callSl (B : mv_B p s m args meth c G ws own cc nL) (hN : mv_Tok K) (hNs : K (mv_A G s.heap.size) s s.heap) {P : Int64 → mv_H → Prop} (hM : mv_C l y ws' rm' G K av σ (mv_Rl P)) (hw : ws' = Cond.code y bytes maxL ret :: wt') (hG : GoodIn ws ws')
    (hlink : (Cond.methodLink own index y).before args s = true) (hstat : (Cond.static y).before args s = true) (hini : (Cond.initialized y.cls).before args s = true)
    (hd : y.cls ≠ "java/lang/invoke/MethodHandle" ∧ y.cls ≠ "java/lang/invoke/VarHandle" ∧ (parseMethodDescriptor y.desc).map (fun d => d.parameters.length) = some n) (hn : av.length = n)
    (hdg : decode cc pc = .ok (.invokestatic index, 3)) (hstk : stk = av.reverse ++ rest) (hr8 : (rest.map fun v => v.category).sum ≤ 8) (hroom : rm'.frames + 1 ≤ R.frames ∧ 8 + (maxL + 11) + rm'.locals ≤ R.locals) (hcell : cells + rm'.cells ≤ R.cells ∧ slots + rm'.slots ≤ R.slots)
    (hmc : cells + rm'.cells ≤ mc ∧ slots + rm'.slots ≤ ms) (hout : ∀ x ∈ c.exceptionTable.toList, covers x pc = false)
    (kn : ∀ (v : Int64) (σ' : mv_H), P v σ' → mv_V p l e R s m args below meth c G nL (cells + rm'.cells) (slots + rm'.slots) (mv_Q G below s mc ms PostC) σ' (pc + 3) L (.long v :: rest)) :
    mv_V p l e R s m args below meth c G nL cells slots (mv_Q G below s mc ms PostC) σ pc L stk :=
  mv_callS B hN hNs hM hw hG hlink hstat hini hd hn hdg hstk hr8 hroom hcell hmc hout (fun x σ' h => by obtain ⟨_, h, _⟩ := h; cases h) (fun v σ' h => by
    obtain ⟨v, hv, h⟩ := h
    cases hv
    exact kn v σ' h)
theorem mv_callVl (B : mv_B p s m args meth c G ws own cc nL) (hN : mv_Tok K) (hNs : K (mv_A G s.heap.size) s s.heap) {C : String} {T0 : u_T} {N0 o ci : Nat} (hs : (mv_sh G)[o]? = some (.inl ci)) (hcl : (mv_cl G)[ci]? = some (C, T0, N0)) {P : Int64 → mv_H → Prop} (hM : mv_C l y ws' rm' G K (.ref (mv_al G o) :: av) σ (mv_Rl P)) (hw : ws' = Cond.code y bytes maxL ret :: wt') (hG : GoodIn ws ws')
    (hlink : (Cond.methodLink own index y).before args s = true) (hinst : (Cond.instanceMethod y).before args s = true) (hsel : (Cond.selects C y y).before args s = true) (hini : (Cond.initialized y.cls).before args s = true)
    (hd : y.cls ≠ "java/lang/invoke/MethodHandle" ∧ y.cls ≠ "java/lang/invoke/VarHandle" ∧ (parseMethodDescriptor y.desc).map (fun d => d.parameters.length) = some n) (hn : av.length = n)
    (hdg : decode cc pc = .ok (.invokevirtual index, 3)) (hstk : stk = av.reverse ++ .ref (mv_al G o) :: rest) (hr8 : (rest.map fun v => v.category).sum ≤ 8) (hroom : rm'.frames + 1 ≤ R.frames ∧ 8 + (maxL + 11) + rm'.locals ≤ R.locals) (hcell : cells + rm'.cells ≤ R.cells ∧ slots + rm'.slots ≤ R.slots)
    (hmc : cells + rm'.cells ≤ mc ∧ slots + rm'.slots ≤ ms) (hout : ∀ x ∈ c.exceptionTable.toList, covers x pc = false)
    (kn : ∀ (v : Int64) (σ' : mv_H), P v σ' → mv_V p l e R s m args below meth c G nL (cells + rm'.cells) (slots + rm'.slots) (mv_Q G below s mc ms PostC) σ' (pc + 3) L (.long v :: rest)) :
    mv_V p l e R s m args below meth c G nL cells slots (mv_Q G below s mc ms PostC) σ pc L stk :=
  mv_callV B hN hNs hs hcl hM hw hG hlink hinst hsel hini hd hn hdg hstk hr8 hroom hcell hmc hout (fun x σ' h => by obtain ⟨_, h, _⟩ := h; cases h) (fun v σ' h => by
    obtain ⟨v, hv, h⟩ := h
    cases hv
    exact kn v σ' h)
theorem mv_callVOl (B : mv_B p s m args meth c G ws own cc nL) (hN : mv_Tok K) (hNs : K (mv_A G s.heap.size) s s.heap) {C : String} {ro : Nat} (hO : va_O C ro (mv_A G s.heap.size) s s.heap) {P : Int64 → mv_H → Prop} (hM : mv_C l y ws' rm' G K (.ref ro :: av) σ (mv_Rl P)) (hw : ws' = Cond.code y bytes maxL ret :: wt') (hG : GoodIn ws ws')
    (hlink : (Cond.methodLink own index y).before args s = true) (hinst : (Cond.instanceMethod y).before args s = true) (hsel : (Cond.selects C y y).before args s = true) (hini : (Cond.initialized y.cls).before args s = true)
    (hd : y.cls ≠ "java/lang/invoke/MethodHandle" ∧ y.cls ≠ "java/lang/invoke/VarHandle" ∧ (parseMethodDescriptor y.desc).map (fun d => d.parameters.length) = some n) (hn : av.length = n)
    (hdg : decode cc pc = .ok (.invokevirtual index, 3)) (hstk : stk = av.reverse ++ .ref ro :: rest) (hr8 : (rest.map fun v => v.category).sum ≤ 8) (hroom : rm'.frames + 1 ≤ R.frames ∧ 8 + (maxL + 11) + rm'.locals ≤ R.locals) (hcell : cells + rm'.cells ≤ R.cells ∧ slots + rm'.slots ≤ R.slots)
    (hmc : cells + rm'.cells ≤ mc ∧ slots + rm'.slots ≤ ms) (hout : ∀ x ∈ c.exceptionTable.toList, covers x pc = false)
    (kn : ∀ (v : Int64) (σ' : mv_H), P v σ' → mv_V p l e R s m args below meth c G nL (cells + rm'.cells) (slots + rm'.slots) (mv_Q G below s mc ms PostC) σ' (pc + 3) L (.long v :: rest)) :
    mv_V p l e R s m args below meth c G nL cells slots (mv_Q G below s mc ms PostC) σ pc L stk :=
  mv_callVO B hN hNs hO hM hw hG hlink hinst hsel hini hd hn hdg hstk hr8 hroom hcell hmc hout (fun x σ' h => by obtain ⟨_, h, _⟩ := h; cases h) (fun v σ' h => by
    obtain ⟨v, hv, h⟩ := h
    cases hv
    exact kn v σ' h)
theorem mv_callSv (B : mv_B p s m args meth c G ws own cc nL) (hN : mv_Tok K) (hNs : K (mv_A G s.heap.size) s s.heap) {P : mv_H → Prop} (hM : mv_C l y ws' rm' G K av σ (mv_Rv P)) (hw : ws' = Cond.code y bytes maxL ret :: wt') (hG : GoodIn ws ws')
    (hlink : (Cond.methodLink own index y).before args s = true) (hstat : (Cond.static y).before args s = true) (hini : (Cond.initialized y.cls).before args s = true)
    (hd : y.cls ≠ "java/lang/invoke/MethodHandle" ∧ y.cls ≠ "java/lang/invoke/VarHandle" ∧ (parseMethodDescriptor y.desc).map (fun d => d.parameters.length) = some n) (hn : av.length = n)
    (hdg : decode cc pc = .ok (.invokestatic index, 3)) (hstk : stk = av.reverse ++ rest) (hr8 : (rest.map fun v => v.category).sum ≤ 8) (hroom : rm'.frames + 1 ≤ R.frames ∧ 8 + (maxL + 11) + rm'.locals ≤ R.locals) (hcell : cells + rm'.cells ≤ R.cells ∧ slots + rm'.slots ≤ R.slots)
    (hmc : cells + rm'.cells ≤ mc ∧ slots + rm'.slots ≤ ms) (hout : ∀ x ∈ c.exceptionTable.toList, covers x pc = false)
    (kn : ∀ (σ' : mv_H), P σ' → mv_V p l e R s m args below meth c G nL (cells + rm'.cells) (slots + rm'.slots) (mv_Q G below s mc ms PostC) σ' (pc + 3) L rest) :
    mv_V p l e R s m args below meth c G nL cells slots (mv_Q G below s mc ms PostC) σ pc L stk :=
  mv_callS B hN hNs hM hw hG hlink hstat hini hd hn hdg hstk hr8 hroom hcell hmc hout (fun x σ' h => by obtain ⟨h, _⟩ := h; cases h) (fun v σ' h => by
    obtain ⟨hv, h⟩ := h
    cases hv
    exact kn σ' h)
theorem mv_callVv (B : mv_B p s m args meth c G ws own cc nL) (hN : mv_Tok K) (hNs : K (mv_A G s.heap.size) s s.heap) {C : String} {T0 : u_T} {N0 o ci : Nat} (hs : (mv_sh G)[o]? = some (.inl ci)) (hcl : (mv_cl G)[ci]? = some (C, T0, N0)) {P : mv_H → Prop} (hM : mv_C l y ws' rm' G K (.ref (mv_al G o) :: av) σ (mv_Rv P)) (hw : ws' = Cond.code y bytes maxL ret :: wt') (hG : GoodIn ws ws')
    (hlink : (Cond.methodLink own index y).before args s = true) (hinst : (Cond.instanceMethod y).before args s = true) (hsel : (Cond.selects C y y).before args s = true) (hini : (Cond.initialized y.cls).before args s = true)
    (hd : y.cls ≠ "java/lang/invoke/MethodHandle" ∧ y.cls ≠ "java/lang/invoke/VarHandle" ∧ (parseMethodDescriptor y.desc).map (fun d => d.parameters.length) = some n) (hn : av.length = n)
    (hdg : decode cc pc = .ok (.invokevirtual index, 3)) (hstk : stk = av.reverse ++ .ref (mv_al G o) :: rest) (hr8 : (rest.map fun v => v.category).sum ≤ 8) (hroom : rm'.frames + 1 ≤ R.frames ∧ 8 + (maxL + 11) + rm'.locals ≤ R.locals) (hcell : cells + rm'.cells ≤ R.cells ∧ slots + rm'.slots ≤ R.slots)
    (hmc : cells + rm'.cells ≤ mc ∧ slots + rm'.slots ≤ ms) (hout : ∀ x ∈ c.exceptionTable.toList, covers x pc = false)
    (kn : ∀ (σ' : mv_H), P σ' → mv_V p l e R s m args below meth c G nL (cells + rm'.cells) (slots + rm'.slots) (mv_Q G below s mc ms PostC) σ' (pc + 3) L rest) :
    mv_V p l e R s m args below meth c G nL cells slots (mv_Q G below s mc ms PostC) σ pc L stk :=
  mv_callV B hN hNs hs hcl hM hw hG hlink hinst hsel hini hd hn hdg hstk hr8 hroom hcell hmc hout (fun x σ' h => by obtain ⟨h, _⟩ := h; cases h) (fun v σ' h => by
    obtain ⟨hv, h⟩ := h
    cases hv
    exact kn σ' h)
theorem mv_callVOv (B : mv_B p s m args meth c G ws own cc nL) (hN : mv_Tok K) (hNs : K (mv_A G s.heap.size) s s.heap) {C : String} {ro : Nat} (hO : va_O C ro (mv_A G s.heap.size) s s.heap) {P : mv_H → Prop} (hM : mv_C l y ws' rm' G K (.ref ro :: av) σ (mv_Rv P)) (hw : ws' = Cond.code y bytes maxL ret :: wt') (hG : GoodIn ws ws')
    (hlink : (Cond.methodLink own index y).before args s = true) (hinst : (Cond.instanceMethod y).before args s = true) (hsel : (Cond.selects C y y).before args s = true) (hini : (Cond.initialized y.cls).before args s = true)
    (hd : y.cls ≠ "java/lang/invoke/MethodHandle" ∧ y.cls ≠ "java/lang/invoke/VarHandle" ∧ (parseMethodDescriptor y.desc).map (fun d => d.parameters.length) = some n) (hn : av.length = n)
    (hdg : decode cc pc = .ok (.invokevirtual index, 3)) (hstk : stk = av.reverse ++ .ref ro :: rest) (hr8 : (rest.map fun v => v.category).sum ≤ 8) (hroom : rm'.frames + 1 ≤ R.frames ∧ 8 + (maxL + 11) + rm'.locals ≤ R.locals) (hcell : cells + rm'.cells ≤ R.cells ∧ slots + rm'.slots ≤ R.slots)
    (hmc : cells + rm'.cells ≤ mc ∧ slots + rm'.slots ≤ ms) (hout : ∀ x ∈ c.exceptionTable.toList, covers x pc = false)
    (kn : ∀ (σ' : mv_H), P σ' → mv_V p l e R s m args below meth c G nL (cells + rm'.cells) (slots + rm'.slots) (mv_Q G below s mc ms PostC) σ' (pc + 3) L rest) :
    mv_V p l e R s m args below meth c G nL cells slots (mv_Q G below s mc ms PostC) σ pc L stk :=
  mv_callVO B hN hNs hO hM hw hG hlink hinst hsel hini hd hn hdg hstk hr8 hroom hcell hmc hout (fun x σ' h => by obtain ⟨h, _⟩ := h; cases h) (fun v σ' h => by
    obtain ⟨hv, h⟩ := h
    cases hv
    exact kn σ' h)
end MVW
