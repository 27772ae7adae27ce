/-! contracts over the abstract heap: a method returns, or throws an object of a class; calls by contract -/
abbrev mv_O : Type := Option Value ⊕ (String × Nat)
/-- words on nest mates: they move with the tables -/
def mv_N (N : List Cond) (U : State) : Prop := ∀ w ∈ N, va_Nw w U
def mv_isN (w : Cond) : Prop := (∃ (a : String) (i : Nat) (b n d h : String), w = .fieldLinkNest a i b n d h) ∨ ∃ (a : String) (i : Nat) (x : MethodName) (h : String), w = .methodLinkNest a i x h
theorem mv_N.warm {N : List Cond} (hN : ∀ w ∈ N, mv_isN w) {s U : State} (hW : s.WarmedH U.vm) (h : mv_N N s) : mv_N N U := fun w hw => by
  rcases hN w hw with ⟨a, i, b, n, d, k, rfl⟩ | ⟨a, i, x, k, rfl⟩
  · exact va_Nw.warmF hW (h _ hw)
  · exact va_Nw.warmM hW (h _ hw)
theorem mv_N.same {N : List Cond} (hN : ∀ w ∈ N, mv_isN w) {s U : State} (hv : s.vm = U.vm) (h : mv_N N s) : mv_N N U := fun w hw => by
  rcases hN w hw with ⟨a, i, b, n, d, k, rfl⟩ | ⟨a, i, x, k, rfl⟩
  · exact va_Nw.same rfl hv (h _ hw)
  · exact va_Nw.same rfl hv (h _ hw)
/-- an object of the class X lies at a -/
def mv_X (X : String) (a : Nat) (t : State) : Prop := ∃ cell : Cell, t.heap[a]? = some cell ∧ cell.vm.isStatics = false ∧ cell.vm ≠ .unknown ∧ t.vm.findClass X = some cell.cls
def mv_out (t : State) (r : mv_O) (o : Outcome) : Prop := match r with
  | .inl v => o = .returned v
  | .inr x => o = .threw x.2 ∧ mv_X x.1 x.2 t
/-- behind a method: its heap, what stayed, what was made -/
def mv_E (G : mv_G) (s : State) (mc ms : Nat) (σ : mv_H) (t : State) : Prop :=
  va_P (mv_D G) (mv_cl G) (mv_wl G σ) t.heap ∧ va_F (mv_A G s.heap.size) s t ∧ s.WarmedH t.vm ∧ ∃ L : List Loc, s.sameButNew ({ t with vm := s.vm } : State) L mc ms ∧ ∀ q ∈ L, mv_A G s.heap.size q.base
def mv_Q (G : mv_G) (below : List Frame) (s : State) (mc ms : Nat) (Post : mv_O → mv_H → Prop) : State → Prop := fun t =>
  ∃ o : Outcome, t.status = .running ∧ Ended t below o ∧ ∃ (r : mv_O) (σ : mv_H), mv_out t r o ∧ Post r σ ∧ mv_E G s mc ms σ t
/-- what is known of cells outside the world, and of the tables: it goes with warmer tables, with heaps that keep what lies outside, with fewer cells inside -/
abbrev mv_T : Type := (Nat → Prop) → State → Heap → Prop
def mv_Tok (K : mv_T) : Prop := (∀ (A : Nat → Prop) (u U : State) (H : Heap), u.WarmedH U.vm → K A u H → K A U H) ∧ (∀ (A : Nat → Prop) (U : State) (H H1 : Heap), K A U H → (∀ a : Nat, a < H.size → ¬ A a → H1[a]? = H[a]?) → K A U H1) ∧ ∀ (A A' : Nat → Prop) (U : State) (H : Heap), K A U H → (∀ q, A' q → A q) → K A' U H
/-- what holds where a method begins -/
def mv_S (G : mv_G) (K : mv_T) (σ : mv_H) (U : State) : Prop := va_P (mv_D G) (mv_cl G) (mv_wl G σ) U.heap ∧ va_K (mv_D G) (mv_cl G) (mv_tys G) U ∧ K (mv_A G U.heap.size) U U.heap
/-- a method's contract -/
def mv_C (l : Launch) (y : MethodName) (ws : List Cond) (rm : Room) (G : mv_G) (K : mv_T) (av : List Value) (σ : mv_H) (Post : mv_O → mv_H → Prop) : Prop :=
  MetFree l y (headSpec ws rm) (va_Pc av (mv_S G K σ)) (fun _ _ _ _ _ => True) (fun _ st o t => ∃ (r : mv_O) (σ' : mv_H), mv_out t r o ∧ Post r σ' ∧ mv_E G st rm.cells rm.slots σ' t)
theorem mv_C.ofV {l : Launch} {y : MethodName} {ws wall : List Cond} {rm : Room} {G : mv_G} {K : mv_T} {av : List Value} {σ : mv_H} {Post : mv_O → mv_H → Prop} {cc : ByteArray} {nL : Nat} {ret : Option FieldType}
    (hy : plainFor y = true) (hw : ws = Cond.code y cc nL ret :: wall) (hi : mv_inj G) (hL : (lg_sl av).length ≤ nL)
    (body : ∀ (p : Program) (e : Env) (s : State) (m : MethodId) (below : List Frame) (meth : Method) (c : Code), mv_B p s m av.toArray meth c G wall y.cls cc nL → K (mv_A G s.heap.size) s s.heap → meth.sig.returnType = ret → meth.name = y.name → c.exceptionTable.isEmpty = true →
      mv_V p l e rm s m av.toArray below meth c G nL 0 0 (mv_Q G below s rm.cells rm.slots Post) σ 0 (lv_args 0 av) []) : mv_C l y ws rm G K av σ Post := by
  refine MetFree.of_bodySF (code := cc) (maxLocals := nL) (ret := ret) hy ?_ ?_
  · intro args s m h hn
    obtain ⟨meth, c, h1, h2, h3, h4, h5, h6, -, -⟩ := Cond.code_spec hn (atoms_spec (ws := ws) h _ (by rw [hw]; exact List.mem_cons_self))
    exact ⟨meth, c, h1, h2, h3, h4, h5, h6⟩
  · intro p e s m args below meth c s₁ B hml hP _
    obtain ⟨rfl, hP, hK, hN⟩ := hP
    have hh0 : s₁.heap = s.heap := by rw [B.state]; rfl
    have hts := atoms_spec (ws := ws) B.pre
    have hb : mv_B p s m av.toArray meth c G wall y.cls cc nL := ⟨⟨B.exec, B.bytes⟩, hml, findClass_of_methodNamed B.named, fun w h => hts w (by rw [hw]; exact List.mem_cons_of_mem _ h), hK, hi, B.notSynchronized⟩
    have hl := lv_entry av (n := nL) hL
    have hV := body p e s m below meth c hb hN B.returns (name_of_methodNamed B.named B.method).1 (B.noHandlers (hts _ (by rw [hw]; exact List.mem_cons_self))) s.heap [] _ hP va_S.rf hl
    obtain ⟨t, a1, o, b1, b2, b3⟩ := hV s₁ hh0 (Stand.of_body B)
    have he : entryFrame m av.toArray nL = F0 m 0 ((lg_sl av ++ List.replicate (nL - (lg_sl av).length) Slot.unset).toArray) [] := lg_entry_eq m av nL
    rw [← he] at a1
    exact ⟨t, o, a1, b1, b2, b3⟩
section MVC
variable {p : Program} {l : Launch} {e : Env} {R : Room} {s : State} {m : MethodId} {args : Array Value} {below : List Frame} {meth : Method} {c : Code} {G : mv_G} {ws : List Cond} {own : String} {cc : ByteArray} {nL : Nat} {cells slots : Nat} {σ : mv_H} {pc : Nat} {L : List (Nat × Value)} {st : List Value}
theorem mv_W_mono {H : Heap} {locs : List Loc} {Q Q' : State → Prop} {g : JFrame} (h : ∀ t, Q t → Q' t) (k : W p l e R s m args below meth c H locs cells slots Q g) : W p l e R s m args below meth c H locs cells slots Q' g := by
  intro T hT X
  obtain ⟨t, a, b⟩ := k T hT X
  exact ⟨t, a, h t b⟩
theorem mv_ends {mc ms : Nat} {Post : mv_O → mv_H → Prop} {H : Heap} {locs : List Loc} {v : Option Value} (hP : va_P (mv_D G) (mv_cl G) (mv_wl G σ) H) (hS : va_S (mv_A G s.heap.size) s.heap H locs) (hp : Post (.inl v) σ) (hc : cells ≤ mc) (hs : slots ≤ ms) :
    ∀ t, MQ below (fun _ _ o t => o = .returned v ∧ t.heap = H) args s cells slots (mv_A G s.heap.size) t → mv_Q G below s mc ms Post t := by
  rintro t ⟨o, h1, h2, ⟨h3, h4⟩, Lc, ⟨-, h5, h6⟩, h7⟩
  exact ⟨o, h1, h2, .inl v, σ, h3, hp, by rw [h4]; exact hP, hS.F h4, h5, Lc, h6.mono hc hs, h7⟩
theorem mv_iret (B : mv_B p s m args meth c G ws own cc nL) {v : Int32} {ty : FieldType} {mc ms : Nat} {Post : mv_O → mv_H → Prop} (hr : meth.sig.returnType = some ty) (hn : narrow ty (.int v) = .int v) (hdg : decode cc pc = .ok (.ireturn, 1)) (hc : cells ≤ mc) (hs : slots ≤ ms) (hp : Post (.inl (some (.int v))) σ) :
    mv_V p l e R s m args below meth c G nL cells slots (mv_Q G below s mc ms Post) σ pc L [.int v] := fun H locs ls h1 h2 h3 => by
  have hlocks := B.2.2.2.2.2.2
  exact mv_W_mono (mv_ends h1 h2 hp hc hs) (W.zret (ty := ty) B.1.1 B.1.2 hr hn (fun t ht _ => ⟨rfl, ht⟩) h2.2.2 hdg)
theorem mv_lret (B : mv_B p s m args meth c G ws own cc nL) {v : Int64} {mc ms : Nat} {Post : mv_O → mv_H → Prop} (hr : meth.sig.returnType = some .long) (hdg : decode cc pc = .ok (.lreturn, 1)) (hc : cells ≤ mc) (hs : slots ≤ ms) (hp : Post (.inl (some (.long v))) σ) :
    mv_V p l e R s m args below meth c G nL cells slots (mv_Q G below s mc ms Post) σ pc L [.long v] := fun H locs ls h1 h2 h3 => by
  have hlocks := B.2.2.2.2.2.2
  exact mv_W_mono (mv_ends h1 h2 hp hc hs) (W.lret B.1.1 B.1.2 hr (fun t ht _ => ⟨rfl, ht⟩) h2.2.2 hdg)
theorem mv_vret (B : mv_B p s m args meth c G ws own cc nL) {mc ms : Nat} {Post : mv_O → mv_H → Prop} (hr : meth.sig.returnType = none) (hdg : decode cc pc = .ok (.return_, 1)) (hc : cells ≤ mc) (hs : slots ≤ ms) (hp : Post (.inl none) σ) :
    mv_V p l e R s m args below meth c G nL cells slots (mv_Q G below s mc ms Post) σ pc L [] := fun H locs ls h1 h2 h3 => by
  have hlocks := B.2.2.2.2.2.2
  exact mv_W_mono (mv_ends h1 h2 hp hc hs) (W.vret B.1.1 B.1.2 hr (fun t ht _ => ⟨rfl, ht⟩) h2.2.2 hdg)
theorem mv_aret (B : mv_B p s m args meth c G ws own cc nL) {a : Nat} {rt : FieldType} {mc ms : Nat} {Post : mv_O → mv_H → Prop} (hr : meth.sig.returnType = some rt) (hrt : (∃ n, rt = .object n) ∨ ∃ t, rt = .array t) (hdg : decode cc pc = .ok (.areturn, 1)) (hc : cells ≤ mc) (hs : slots ≤ ms) (hp : Post (.inl (some (.ref a))) σ) :
    mv_V p l e R s m args below meth c G nL cells slots (mv_Q G below s mc ms Post) σ pc L [.ref a] := fun H locs ls h1 h2 h3 => by
  have hlocks := B.2.2.2.2.2.2
  exact mv_W_mono (mv_ends h1 h2 hp hc hs) (W.aret B.1.1 B.1.2 hr hrt (Or.inr ⟨a, rfl⟩) (fun t ht _ => ⟨rfl, ht⟩) h2.2.2 hdg)
/-- a throw that no handler of the method covers -/
theorem mv_athrow (B : mv_B p s m args meth c G ws own cc nL) {a : Nat} {X : String} {mc ms : Nat} {Post : mv_O → mv_H → Prop} (hout : ∀ x ∈ c.exceptionTable.toList, covers x pc = false) (hdg : decode cc pc = .ok (.athrow, 1)) (hc : cells ≤ mc) (hs : slots ≤ ms) (hp : Post (.inr (X, a)) σ)
    (hX : ∀ (H : Heap), va_P (mv_D G) (mv_cl G) (mv_wl G σ) H → ∃ cell : Cell, H[a]? = some cell ∧ cell.vm.isStatics = false ∧ cell.vm ≠ .unknown ∧ s.vm.findClass X = some cell.cls) :
    mv_V p l e R s m args below meth c G nL cells slots (mv_Q G below s mc ms Post) σ pc L (.ref a :: st) := fun H locs ls h1 h2 h3 T hT Y => by
  obtain ⟨q1, q2, q3, q4, q5⟩ := Y.athrowLeaves B.1.1 (g := F0 m pc ls (.ref a :: st)) rfl rfl rfl hout rfl (by rw [B.1.2]; exact hdg) B.2.2.2.2.2.2
  obtain ⟨cell, x1, x2, x3, x4⟩ := hX H h1
  have hh : (T.setFrames (.throwing a :: below)).heap = H := hT
  refine ⟨_, q1, .threw a, q2, q3, .inr (X, a), σ, ⟨rfl, cell, by rw [hh]; exact x1, x2, x3, ?_⟩, hp, by rw [hh]; exact h1, h2.F hh, q4, locs, q5.mono hc hs, h2.2.2⟩
  rw [q4.alike.findClass]
  exact x4
end MVC
