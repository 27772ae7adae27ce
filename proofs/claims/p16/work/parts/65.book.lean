/-! the reference's Book: characters and tokens -/
def mv_Ui (P : Int32 → mv_H → Prop) (x : String × Nat) (T : mv_H → Prop) : mv_O → mv_H → Prop := fun r σ => (∃ v : Int32, r = .inl (some (.int v)) ∧ P v σ) ∨ (r = .inr x ∧ T σ)
def mv_Uv (P : mv_H → Prop) (x : String × Nat) (T : mv_H → Prop) : mv_O → mv_H → Prop := fun r σ => (r = .inl none ∧ P σ) ∨ (r = .inr x ∧ T σ)
def mv_Rr (a : Nat) (P : mv_H → Prop) : mv_O → mv_H → Prop := fun r σ => r = .inl (some (.ref a)) ∧ P σ
section MUU
variable {p : Program} {l : Launch} {e : Env} {R : Room} {s : State} {m : MethodId} {args : Array Value} {below : List Frame} {meth : Method} {c : Code} {G : mv_G} {ws : List Cond} {own : String} {cc : ByteArray} {nL : Nat} {cells slots : Nat} {σ : mv_H} {pc : Nat} {L : List (Nat × Value)} {stk rest : List Value}
  {K : mv_T} {ws' wt' : List Cond} {rm' : Room} {y : MethodName} {bytes : ByteArray} {maxL index mc ms n : Nat} {ret : Option FieldType} {av : List Value} {PostC : mv_O → mv_H → Prop}

theorem mv_callVUi (B : mv_B p s m args meth c G ws own cc nL) (hN : mv_Tok K) (hNs : K (mv_A G s.heap.size) s s.heap) {C : String} {T0 : u_T} {N0 o ci : Nat} (hs : (mv_sh G)[o]? = some (.inl ci)) (hcl : (mv_cl G)[ci]? = some (C, T0, N0)) {P : Int32 → mv_H → Prop} {x : String × Nat} {T : mv_H → Prop} (hM : mv_C l y ws' rm' G K (.ref (mv_al G o) :: av) σ (mv_Ui P x T)) (hw : ws' = Cond.code y bytes maxL ret :: wt') (hG : GoodIn ws ws')
    (hlink : (Cond.methodLink own index y).before args s = true) (hinst : (Cond.instanceMethod y).before args s = true) (hsel : (Cond.selects C y y).before args s = true) (hini : (Cond.initialized y.cls).before args s = true)
    (hd : y.cls ≠ "java/lang/invoke/MethodHandle" ∧ y.cls ≠ "java/lang/invoke/VarHandle" ∧ (parseMethodDescriptor y.desc).map (fun d => d.parameters.length) = some n) (hn : av.length = n)
    (hdg : decode cc pc = .ok (.invokevirtual index, 3)) (hstk : stk = av.reverse ++ .ref (mv_al G o) :: rest) (hr8 : (rest.map fun v => v.category).sum ≤ 8) (hroom : rm'.frames + 1 ≤ R.frames ∧ 8 + (maxL + 11) + rm'.locals ≤ R.locals) (hcell : cells + rm'.cells ≤ R.cells ∧ slots + rm'.slots ≤ R.slots)
    (hmc : cells + rm'.cells ≤ mc ∧ slots + rm'.slots ≤ ms) (hout : ∀ x ∈ c.exceptionTable.toList, covers x pc = false)
    (kt : ∀ σ' : mv_H, T σ' → PostC (.inr x) σ')
    (kn : ∀ (v : Int32) (σ' : mv_H), P v σ' → mv_V p l e R s m args below meth c G nL (cells + rm'.cells) (slots + rm'.slots) (mv_Q G below s mc ms PostC) σ' (pc + 3) L (.int v :: rest)) :
    mv_V p l e R s m args below meth c G nL cells slots (mv_Q G below s mc ms PostC) σ pc L stk :=
  mv_callV B hN hNs hs hcl hM hw hG hlink hinst hsel hini hd hn hdg hstk hr8 hroom hcell hmc hout (fun x σ' h => by rcases h with ⟨_, h, _⟩ | ⟨h, hT⟩; cases h; cases h; exact kt σ' hT) (fun v σ' h => by rcases h with ⟨w, h, hP⟩ | ⟨h, _⟩; cases h; exact kn w σ' hP; cases h)
theorem mv_callVUv (B : mv_B p s m args meth c G ws own cc nL) (hN : mv_Tok K) (hNs : K (mv_A G s.heap.size) s s.heap) {C : String} {T0 : u_T} {N0 o ci : Nat} (hs : (mv_sh G)[o]? = some (.inl ci)) (hcl : (mv_cl G)[ci]? = some (C, T0, N0)) {P : mv_H → Prop} {x : String × Nat} {T : mv_H → Prop} (hM : mv_C l y ws' rm' G K (.ref (mv_al G o) :: av) σ (mv_Uv P x T)) (hw : ws' = Cond.code y bytes maxL ret :: wt') (hG : GoodIn ws ws')
    (hlink : (Cond.methodLink own index y).before args s = true) (hinst : (Cond.instanceMethod y).before args s = true) (hsel : (Cond.selects C y y).before args s = true) (hini : (Cond.initialized y.cls).before args s = true)
    (hd : y.cls ≠ "java/lang/invoke/MethodHandle" ∧ y.cls ≠ "java/lang/invoke/VarHandle" ∧ (parseMethodDescriptor y.desc).map (fun d => d.parameters.length) = some n) (hn : av.length = n)
    (hdg : decode cc pc = .ok (.invokevirtual index, 3)) (hstk : stk = av.reverse ++ .ref (mv_al G o) :: rest) (hr8 : (rest.map fun v => v.category).sum ≤ 8) (hroom : rm'.frames + 1 ≤ R.frames ∧ 8 + (maxL + 11) + rm'.locals ≤ R.locals) (hcell : cells + rm'.cells ≤ R.cells ∧ slots + rm'.slots ≤ R.slots)
    (hmc : cells + rm'.cells ≤ mc ∧ slots + rm'.slots ≤ ms) (hout : ∀ x ∈ c.exceptionTable.toList, covers x pc = false)
    (kt : ∀ σ' : mv_H, T σ' → PostC (.inr x) σ')
    (kn : ∀ (σ' : mv_H), P σ' → mv_V p l e R s m args below meth c G nL (cells + rm'.cells) (slots + rm'.slots) (mv_Q G below s mc ms PostC) σ' (pc + 3) L (rest)) :
    mv_V p l e R s m args below meth c G nL cells slots (mv_Q G below s mc ms PostC) σ pc L stk :=
  mv_callV B hN hNs hs hcl hM hw hG hlink hinst hsel hini hd hn hdg hstk hr8 hroom hcell hmc hout (fun x σ' h => by rcases h with ⟨h, _⟩ | ⟨h, hT⟩; cases h; cases h; exact kt σ' hT) (fun v σ' h => by rcases h with ⟨h, hP⟩ | ⟨h, _⟩; cases h; exact kn σ' hP; cases h)
theorem mv_callVr (B : mv_B p s m args meth c G ws own cc nL) (hN : mv_Tok K) (hNs : K (mv_A G s.heap.size) s s.heap) {C : String} {T0 : u_T} {N0 o ci : Nat} (hs : (mv_sh G)[o]? = some (.inl ci)) (hcl : (mv_cl G)[ci]? = some (C, T0, N0)) {P : mv_H → Prop} {a : Nat} (hM : mv_C l y ws' rm' G K (.ref (mv_al G o) :: av) σ (mv_Rr a P)) (hw : ws' = Cond.code y bytes maxL ret :: wt') (hG : GoodIn ws ws')
    (hlink : (Cond.methodLink own index y).before args s = true) (hinst : (Cond.instanceMethod y).before args s = true) (hsel : (Cond.selects C y y).before args s = true) (hini : (Cond.initialized y.cls).before args s = true)
    (hd : y.cls ≠ "java/lang/invoke/MethodHandle" ∧ y.cls ≠ "java/lang/invoke/VarHandle" ∧ (parseMethodDescriptor y.desc).map (fun d => d.parameters.length) = some n) (hn : av.length = n)
    (hdg : decode cc pc = .ok (.invokevirtual index, 3)) (hstk : stk = av.reverse ++ .ref (mv_al G o) :: rest) (hr8 : (rest.map fun v => v.category).sum ≤ 8) (hroom : rm'.frames + 1 ≤ R.frames ∧ 8 + (maxL + 11) + rm'.locals ≤ R.locals) (hcell : cells + rm'.cells ≤ R.cells ∧ slots + rm'.slots ≤ R.slots)
    (hmc : cells + rm'.cells ≤ mc ∧ slots + rm'.slots ≤ ms) (hout : ∀ x ∈ c.exceptionTable.toList, covers x pc = false)
    (kn : ∀ (σ' : mv_H), P σ' → mv_V p l e R s m args below meth c G nL (cells + rm'.cells) (slots + rm'.slots) (mv_Q G below s mc ms PostC) σ' (pc + 3) L (.ref a :: rest)) :
    mv_V p l e R s m args below meth c G nL cells slots (mv_Q G below s mc ms PostC) σ pc L stk :=
  mv_callV B hN hNs hs hcl hM hw hG hlink hinst hsel hini hd hn hdg hstk hr8 hroom hcell hmc hout (fun x σ' h => by obtain ⟨h, _⟩ := h; cases h) (fun v σ' h => by obtain ⟨h, hP⟩ := h; cases h; exact kn σ' hP)
/-- an object of the world is thrown, and no handler covers it -/
theorem mv_athrowO (B : mv_B p s m args meth c G ws own cc nL) {C : String} {T0 : u_T} {N0 o ci : Nat} (hs : (mv_sh G)[o]? = some (.inl ci)) (hcl : (mv_cl G)[ci]? = some (C, T0, N0)) (hout : ∀ x ∈ c.exceptionTable.toList, covers x pc = false) (hdg : decode cc pc = .ok (.athrow, 1)) (hc : cells ≤ mc) (hs2 : slots ≤ ms) (hp : PostC (.inr (C, mv_al G o)) σ) :
    mv_V p l e R s m args below meth c G nL cells slots (mv_Q G below s mc ms PostC) σ pc L (.ref (mv_al G o) :: rest) :=
  mv_athrow B hout hdg hc hs2 hp (fun H hP => by
    obtain ⟨q', h1, cell, g1, g2, g3, -⟩ := hP o _ (mv_wl_o σ hs)
    exact ⟨cell, g1, by rw [g3]; rfl, (fun z => by rw [g3] at z; cases z), by rw [g2]; exact (B.2.2.2.2.1.1 ci _ hcl).2.1⟩)
end MUU
/-- is it a letter -/
def lt9 (x : Int32) : Int32 := if (97 ≤ x.toInt ∧ x.toInt ≤ 122) ∨ (65 ≤ x.toInt ∧ x.toInt ≤ 90) ∨ x.toInt = 95 then 1 else 0
/-- the character at i -/
def lkv (σ : mv_H) (len : Nat) (i : Int32) : Int32 := if i.toInt < len then mv_a σ 71 i.toNatClampNeg &&& 255 else -1
/-- its references -/
def Br (B : Nat) (r : Nat → Nat → Option Nat) : Prop := mh r ∧ r B 1 = some 71
/-- what the reading of tokens changes -/
def TkB (B : Nat) (σ τ : mv_H) : Prop := (∀ o k, ¬ (o = B ∧ 3 ≤ k ∧ k ≤ 7) → ¬ (o = B + 33 ∧ k = 0) → mv_i τ o k = mv_i σ o k) ∧ (∀ o k, ¬ (o = B ∧ k = 9) → mv_l τ o k = mv_l σ o k) ∧ mv_r τ = mv_r σ ∧ mv_a τ = mv_a σ ∧ mv_b τ = mv_b σ
theorem TkB.rf {B : Nat} {σ : mv_H} : TkB B σ σ := ⟨fun _ _ _ _ => rfl, fun _ _ _ => rfl, rfl, rfl, rfl⟩
theorem TkB.tr {B : Nat} {σ τ υ : mv_H} (h : TkB B σ τ) (g : TkB B τ υ) : TkB B σ υ := ⟨fun o k a b => (g.1 o k a b).trans (h.1 o k a b), fun o k a => (g.2.1 o k a).trans (h.2.1 o k a), g.2.2.1.trans h.2.2.1, g.2.2.2.1.trans h.2.2.2.1, g.2.2.2.2.trans h.2.2.2.2⟩
theorem TkB.si {B : Nat} {σ τ : mv_H} (h : TkB B σ τ) {o k : Nat} {v : Int32} (q : (o = B ∧ 3 ≤ k ∧ k ≤ 7) ∨ (o = B + 33 ∧ k = 0)) : TkB B σ (mv_si τ o k v) := ⟨fun o' k' a b => (mv_u_ne _ _ (fun z => by rcases q with q | q; exact a ⟨z.1.trans q.1, by omega, by omega⟩; exact b ⟨z.1.trans q.1, by omega⟩)).trans (h.1 o' k' a b), h.2.1, h.2.2.1, h.2.2.2.1, h.2.2.2.2⟩
theorem TkB.sl {B : Nat} {σ τ : mv_H} (h : TkB B σ τ) {v : Int64} : TkB B σ (mv_sl τ B 9 v) := ⟨h.1, fun o' k' a => (mv_u_ne _ _ (fun z => a z)).trans (h.2.1 o' k' a), h.2.2.1, h.2.2.2.1, h.2.2.2.2⟩
/-- the reader stands at a -/
def Ta (B len : Nat) (σ τ : mv_H) (a : Nat) : Prop := TkB B σ τ ∧ Br B (mv_r τ) ∧ (mv_i τ B 2).toInt = len ∧ (mv_i τ B 3).toInt = a ∧ a ≤ len ∧ len ≤ 10240
theorem Ta.re {B len a : Nat} {σ τ : mv_H} (h : Ta B len σ τ a) : Ta B len τ τ a := ⟨TkB.rf, h.2⟩
theorem Ta.tr {B len a b : Nat} {σ τ υ : mv_H} (h : Ta B len σ τ a) (g : Ta B len τ υ b) : Ta B len σ υ b := ⟨h.1.tr g.1, g.2⟩
theorem Ta.add {B len a : Nat} {σ τ : mv_H} (h : Ta B len σ τ a) {v : Int32} {b : Nat} (hv : v.toInt = b) (hb : b ≤ len) : Ta B len σ (mv_si τ B 3 v) b :=
  ⟨h.1.si (Or.inl ⟨rfl, by decide, by decide⟩), h.2.1, (congrArg Int32.toInt (mv_u_ne _ _ (fun z => absurd z.2 (by decide)))).trans h.2.2.1, (congrArg Int32.toInt (mv_u_same _ _ _ _)).trans hv, hb, h.2.2.2.2.2⟩
theorem Ta.inc {B len a : Nat} {σ τ : mv_H} (h : Ta B len σ τ a) (hb : a < len) : Ta B len σ (mv_si τ B 3 (mv_i τ B 3 + 1)) (a + 1) := h.add (by have := h.2.2.2.1; have := h.2.2.2.2.2; rw [i32_inc (by omega)]; omega) hb
theorem Ta.si {B len a : Nat} {σ τ : mv_H} (h : Ta B len σ τ a) {k : Nat} {v : Int32} (hk : 4 ≤ k ∧ k ≤ 7) : Ta B len σ (mv_si τ B k v) a :=
  ⟨h.1.si (Or.inl ⟨rfl, by omega, by omega⟩), h.2.1, (congrArg Int32.toInt (mv_u_ne _ _ (fun z => by omega))).trans h.2.2.1, (congrArg Int32.toInt (mv_u_ne _ _ (fun z => by omega))).trans h.2.2.2.1, h.2.2.2.2⟩
theorem Ta.sl {B len a : Nat} {σ τ : mv_H} (h : Ta B len σ τ a) {v : Int64} : Ta B len σ (mv_sl τ B 9 v) a := ⟨h.1.sl, h.2⟩
theorem mv_si_o (σ : mv_H) {o k o' k' : Nat} (v : Int32) (h : ¬ (o' = o ∧ k' = k)) : mv_i (mv_si σ o k v) o' k' = mv_i σ o' k' := mv_u_ne _ _ h
theorem mv_si_s (σ : mv_H) (o k : Nat) (v : Int32) : mv_i (mv_si σ o k v) o k = v := mv_u_same _ _ _ _

def y_Book_letter : MethodName := ⟨"MachineLoomModel$Book", "letter", "(I)Z"⟩
abbrev b_Book_letter : ByteArray := prog_15_method_4_code
theorem kc_Book_letter : Cond.code y_Book_letter b_Book_letter 1 (Option.some Jvm.ClassFile.FieldType.boolean) ∈ ma := ma_of (tb_9 _ (List.mem_of_getElem? (i := 208) rfl)) rfl
theorem d_Book_letter_0 : decode b_Book_letter 0 = .ok (.iload_n 0, 1) := by decide +kernel
theorem d_Book_letter_1 : decode b_Book_letter 1 = .ok (.bipush 97, 2) := by decide +kernel
theorem d_Book_letter_3 : decode b_Book_letter 3 = .ok (.if_icmp .lt (9), 3) := by decide +kernel
theorem d_Book_letter_6 : decode b_Book_letter 6 = .ok (.iload_n 0, 1) := by decide +kernel
theorem d_Book_letter_7 : decode b_Book_letter 7 = .ok (.bipush 122, 2) := by decide +kernel
theorem d_Book_letter_9 : decode b_Book_letter 9 = .ok (.if_icmp .le (21), 3) := by decide +kernel
theorem d_Book_letter_12 : decode b_Book_letter 12 = .ok (.iload_n 0, 1) := by decide +kernel
theorem d_Book_letter_13 : decode b_Book_letter 13 = .ok (.bipush 65, 2) := by decide +kernel
theorem d_Book_letter_15 : decode b_Book_letter 15 = .ok (.if_icmp .lt (9), 3) := by decide +kernel
theorem d_Book_letter_18 : decode b_Book_letter 18 = .ok (.iload_n 0, 1) := by decide +kernel
theorem d_Book_letter_19 : decode b_Book_letter 19 = .ok (.bipush 90, 2) := by decide +kernel
theorem d_Book_letter_21 : decode b_Book_letter 21 = .ok (.if_icmp .le (9), 3) := by decide +kernel
theorem d_Book_letter_24 : decode b_Book_letter 24 = .ok (.iload_n 0, 1) := by decide +kernel
theorem d_Book_letter_25 : decode b_Book_letter 25 = .ok (.bipush 95, 2) := by decide +kernel
theorem d_Book_letter_27 : decode b_Book_letter 27 = .ok (.if_icmp .ne (7), 3) := by decide +kernel
theorem d_Book_letter_30 : decode b_Book_letter 30 = .ok (.iconst 1, 1) := by decide +kernel
theorem d_Book_letter_31 : decode b_Book_letter 31 = .ok (.goto (4), 3) := by decide +kernel
theorem d_Book_letter_34 : decode b_Book_letter 34 = .ok (.iconst 0, 1) := by decide +kernel
theorem d_Book_letter_35 : decode b_Book_letter 35 = .ok (.ireturn, 1) := by decide +kernel
set_option maxHeartbeats 4000000 in
set_option maxRecDepth 100000 in
theorem c_Book_letter (l : Launch) {dA : FieldType → ClassId} {D : va_G} {al : Nat → Nat} {ext : mv_Sh} {sk sv : Nat → Nat} (hi : mv_inj (mg dA D al ext)) (σ : mv_H) (x : Int32) : mv_C l y_Book_letter (Cond.code y_Book_letter b_Book_letter 1 (Option.some Jvm.ClassFile.FieldType.boolean) :: ma) ({ frames := 0, cells := 0, slots := 0, locals := 0 }) (mg dA D al ext) (mK sk sv) [.int x] σ (mv_Ri (fun v σ1 => σ1 = σ ∧ v = lt9 x ∧ (v = 0 ∨ (v = 1 ∧ 65 ≤ x.toInt ∧ x.toInt ≤ 122)))) := by
  refine mv_C.ofV (cc := b_Book_letter) (nL := 1) (ret := (Option.some Jvm.ClassFile.FieldType.boolean)) (by decide +kernel) rfl hi (Nat.le_of_ble_eq_true rfl) ?_
  intro p e s m below meth c B hNs hr hnm hno
  refine mv_iload_n (pc := 0) B d_Book_letter_0 rfl 0 rfl ?_
  refine mv_bipush (pc := 1) (v := 97) B d_Book_letter_1 (by decide) ?_
  refine mv_icmp_lt (pc := 3) (tgt := 12) B d_Book_letter_3 rfl (fun h3 => ?_) (fun h3 => ?_)
  · skip
    refine mv_iload_n (pc := 12) B d_Book_letter_12 rfl 0 rfl ?_
    refine mv_bipush (pc := 13) (v := 65) B d_Book_letter_13 (by decide) ?_
    refine mv_icmp_lt (pc := 15) (tgt := 24) B d_Book_letter_15 rfl (fun h15 => ?_) (fun h15 => ?_)
    · skip
      refine mv_iload_n (pc := 24) B d_Book_letter_24 rfl 0 rfl ?_
      refine mv_bipush (pc := 25) (v := 95) B d_Book_letter_25 (by decide) ?_
      refine mv_icmp_ne (pc := 27) (tgt := 34) B d_Book_letter_27 rfl (fun h27 => ?_) (fun h27 => ?_)
      · skip
        refine mv_iconst (pc := 34) (v := 0) B d_Book_letter_34 (by decide) ?_
        exact mv_iret (pc := 35) B hr rfl d_Book_letter_35 (Nat.le_refl _) (Nat.le_refl _) ⟨_, rfl, rfl, by first | exact (if_neg (by simp only [Int32.le_iff_toInt_le, Int32.lt_iff_toInt_lt, ← Int32.toInt_inj, Int32.reduceToInt] at *; omega)).symm | exact (if_pos (by simp only [Int32.le_iff_toInt_le, Int32.lt_iff_toInt_lt, ← Int32.toInt_inj, Int32.reduceToInt] at *; omega)).symm, by first | exact Or.inl rfl | exact Or.inr ⟨rfl, by simp only [Int32.le_iff_toInt_le, Int32.lt_iff_toInt_lt, ← Int32.toInt_inj, Int32.reduceToInt] at *; omega, by simp only [Int32.le_iff_toInt_le, Int32.lt_iff_toInt_lt, ← Int32.toInt_inj, Int32.reduceToInt] at *; omega⟩⟩
      · skip
        refine mv_iconst (pc := 30) (v := 1) B d_Book_letter_30 (by decide) ?_
        refine mv_goto (pc := 31) (tgt := 35) B d_Book_letter_31 rfl ?_
        exact mv_iret (pc := 35) B hr rfl d_Book_letter_35 (Nat.le_refl _) (Nat.le_refl _) ⟨_, rfl, rfl, by first | exact (if_neg (by simp only [Int32.le_iff_toInt_le, Int32.lt_iff_toInt_lt, ← Int32.toInt_inj, Int32.reduceToInt] at *; omega)).symm | exact (if_pos (by simp only [Int32.le_iff_toInt_le, Int32.lt_iff_toInt_lt, ← Int32.toInt_inj, Int32.reduceToInt] at *; omega)).symm, by first | exact Or.inl rfl | exact Or.inr ⟨rfl, by simp only [Int32.le_iff_toInt_le, Int32.lt_iff_toInt_lt, ← Int32.toInt_inj, Int32.reduceToInt] at *; omega, by simp only [Int32.le_iff_toInt_le, Int32.lt_iff_toInt_lt, ← Int32.toInt_inj, Int32.reduceToInt] at *; omega⟩⟩
    · skip
      refine mv_iload_n (pc := 18) B d_Book_letter_18 rfl 0 rfl ?_
      refine mv_bipush (pc := 19) (v := 90) B d_Book_letter_19 (by decide) ?_
      refine mv_icmp_le (pc := 21) (tgt := 30) B d_Book_letter_21 rfl (fun h21 => ?_) (fun h21 => ?_)
      · skip
        refine mv_iconst (pc := 30) (v := 1) B d_Book_letter_30 (by decide) ?_
        refine mv_goto (pc := 31) (tgt := 35) B d_Book_letter_31 rfl ?_
        exact mv_iret (pc := 35) B hr rfl d_Book_letter_35 (Nat.le_refl _) (Nat.le_refl _) ⟨_, rfl, rfl, by first | exact (if_neg (by simp only [Int32.le_iff_toInt_le, Int32.lt_iff_toInt_lt, ← Int32.toInt_inj, Int32.reduceToInt] at *; omega)).symm | exact (if_pos (by simp only [Int32.le_iff_toInt_le, Int32.lt_iff_toInt_lt, ← Int32.toInt_inj, Int32.reduceToInt] at *; omega)).symm, by first | exact Or.inl rfl | exact Or.inr ⟨rfl, by simp only [Int32.le_iff_toInt_le, Int32.lt_iff_toInt_lt, ← Int32.toInt_inj, Int32.reduceToInt] at *; omega, by simp only [Int32.le_iff_toInt_le, Int32.lt_iff_toInt_lt, ← Int32.toInt_inj, Int32.reduceToInt] at *; omega⟩⟩
      · skip
        refine mv_iload_n (pc := 24) B d_Book_letter_24 rfl 0 rfl ?_
        refine mv_bipush (pc := 25) (v := 95) B d_Book_letter_25 (by decide) ?_
        refine mv_icmp_ne (pc := 27) (tgt := 34) B d_Book_letter_27 rfl (fun h27 => ?_) (fun h27 => ?_)
        · skip
          refine mv_iconst (pc := 34) (v := 0) B d_Book_letter_34 (by decide) ?_
          exact mv_iret (pc := 35) B hr rfl d_Book_letter_35 (Nat.le_refl _) (Nat.le_refl _) ⟨_, rfl, rfl, by first | exact (if_neg (by simp only [Int32.le_iff_toInt_le, Int32.lt_iff_toInt_lt, ← Int32.toInt_inj, Int32.reduceToInt] at *; omega)).symm | exact (if_pos (by simp only [Int32.le_iff_toInt_le, Int32.lt_iff_toInt_lt, ← Int32.toInt_inj, Int32.reduceToInt] at *; omega)).symm, by first | exact Or.inl rfl | exact Or.inr ⟨rfl, by simp only [Int32.le_iff_toInt_le, Int32.lt_iff_toInt_lt, ← Int32.toInt_inj, Int32.reduceToInt] at *; omega, by simp only [Int32.le_iff_toInt_le, Int32.lt_iff_toInt_lt, ← Int32.toInt_inj, Int32.reduceToInt] at *; omega⟩⟩
        · skip
          refine mv_iconst (pc := 30) (v := 1) B d_Book_letter_30 (by decide) ?_
          refine mv_goto (pc := 31) (tgt := 35) B d_Book_letter_31 rfl ?_
          exact mv_iret (pc := 35) B hr rfl d_Book_letter_35 (Nat.le_refl _) (Nat.le_refl _) ⟨_, rfl, rfl, by first | exact (if_neg (by simp only [Int32.le_iff_toInt_le, Int32.lt_iff_toInt_lt, ← Int32.toInt_inj, Int32.reduceToInt] at *; omega)).symm | exact (if_pos (by simp only [Int32.le_iff_toInt_le, Int32.lt_iff_toInt_lt, ← Int32.toInt_inj, Int32.reduceToInt] at *; omega)).symm, by first | exact Or.inl rfl | exact Or.inr ⟨rfl, by simp only [Int32.le_iff_toInt_le, Int32.lt_iff_toInt_lt, ← Int32.toInt_inj, Int32.reduceToInt] at *; omega, by simp only [Int32.le_iff_toInt_le, Int32.lt_iff_toInt_lt, ← Int32.toInt_inj, Int32.reduceToInt] at *; omega⟩⟩
  · skip
    refine mv_iload_n (pc := 6) B d_Book_letter_6 rfl 0 rfl ?_
    refine mv_bipush (pc := 7) (v := 122) B d_Book_letter_7 (by decide) ?_
    refine mv_icmp_le (pc := 9) (tgt := 30) B d_Book_letter_9 rfl (fun h9 => ?_) (fun h9 => ?_)
    · skip
      refine mv_iconst (pc := 30) (v := 1) B d_Book_letter_30 (by decide) ?_
      refine mv_goto (pc := 31) (tgt := 35) B d_Book_letter_31 rfl ?_
      exact mv_iret (pc := 35) B hr rfl d_Book_letter_35 (Nat.le_refl _) (Nat.le_refl _) ⟨_, rfl, rfl, by first | exact (if_neg (by simp only [Int32.le_iff_toInt_le, Int32.lt_iff_toInt_lt, ← Int32.toInt_inj, Int32.reduceToInt] at *; omega)).symm | exact (if_pos (by simp only [Int32.le_iff_toInt_le, Int32.lt_iff_toInt_lt, ← Int32.toInt_inj, Int32.reduceToInt] at *; omega)).symm, by first | exact Or.inl rfl | exact Or.inr ⟨rfl, by simp only [Int32.le_iff_toInt_le, Int32.lt_iff_toInt_lt, ← Int32.toInt_inj, Int32.reduceToInt] at *; omega, by simp only [Int32.le_iff_toInt_le, Int32.lt_iff_toInt_lt, ← Int32.toInt_inj, Int32.reduceToInt] at *; omega⟩⟩
    · skip
      refine mv_iload_n (pc := 12) B d_Book_letter_12 rfl 0 rfl ?_
      refine mv_bipush (pc := 13) (v := 65) B d_Book_letter_13 (by decide) ?_
      refine mv_icmp_lt (pc := 15) (tgt := 24) B d_Book_letter_15 rfl (fun h15 => ?_) (fun h15 => ?_)
      · skip
        refine mv_iload_n (pc := 24) B d_Book_letter_24 rfl 0 rfl ?_
        refine mv_bipush (pc := 25) (v := 95) B d_Book_letter_25 (by decide) ?_
        refine mv_icmp_ne (pc := 27) (tgt := 34) B d_Book_letter_27 rfl (fun h27 => ?_) (fun h27 => ?_)
        · skip
          refine mv_iconst (pc := 34) (v := 0) B d_Book_letter_34 (by decide) ?_
          exact mv_iret (pc := 35) B hr rfl d_Book_letter_35 (Nat.le_refl _) (Nat.le_refl _) ⟨_, rfl, rfl, by first | exact (if_neg (by simp only [Int32.le_iff_toInt_le, Int32.lt_iff_toInt_lt, ← Int32.toInt_inj, Int32.reduceToInt] at *; omega)).symm | exact (if_pos (by simp only [Int32.le_iff_toInt_le, Int32.lt_iff_toInt_lt, ← Int32.toInt_inj, Int32.reduceToInt] at *; omega)).symm, by first | exact Or.inl rfl | exact Or.inr ⟨rfl, by simp only [Int32.le_iff_toInt_le, Int32.lt_iff_toInt_lt, ← Int32.toInt_inj, Int32.reduceToInt] at *; omega, by simp only [Int32.le_iff_toInt_le, Int32.lt_iff_toInt_lt, ← Int32.toInt_inj, Int32.reduceToInt] at *; omega⟩⟩
        · skip
          refine mv_iconst (pc := 30) (v := 1) B d_Book_letter_30 (by decide) ?_
          refine mv_goto (pc := 31) (tgt := 35) B d_Book_letter_31 rfl ?_
          exact mv_iret (pc := 35) B hr rfl d_Book_letter_35 (Nat.le_refl _) (Nat.le_refl _) ⟨_, rfl, rfl, by first | exact (if_neg (by simp only [Int32.le_iff_toInt_le, Int32.lt_iff_toInt_lt, ← Int32.toInt_inj, Int32.reduceToInt] at *; omega)).symm | exact (if_pos (by simp only [Int32.le_iff_toInt_le, Int32.lt_iff_toInt_lt, ← Int32.toInt_inj, Int32.reduceToInt] at *; omega)).symm, by first | exact Or.inl rfl | exact Or.inr ⟨rfl, by simp only [Int32.le_iff_toInt_le, Int32.lt_iff_toInt_lt, ← Int32.toInt_inj, Int32.reduceToInt] at *; omega, by simp only [Int32.le_iff_toInt_le, Int32.lt_iff_toInt_lt, ← Int32.toInt_inj, Int32.reduceToInt] at *; omega⟩⟩
      · skip
        refine mv_iload_n (pc := 18) B d_Book_letter_18 rfl 0 rfl ?_
        refine mv_bipush (pc := 19) (v := 90) B d_Book_letter_19 (by decide) ?_
        refine mv_icmp_le (pc := 21) (tgt := 30) B d_Book_letter_21 rfl (fun h21 => ?_) (fun h21 => ?_)
        · skip
          refine mv_iconst (pc := 30) (v := 1) B d_Book_letter_30 (by decide) ?_
          refine mv_goto (pc := 31) (tgt := 35) B d_Book_letter_31 rfl ?_
          exact mv_iret (pc := 35) B hr rfl d_Book_letter_35 (Nat.le_refl _) (Nat.le_refl _) ⟨_, rfl, rfl, by first | exact (if_neg (by simp only [Int32.le_iff_toInt_le, Int32.lt_iff_toInt_lt, ← Int32.toInt_inj, Int32.reduceToInt] at *; omega)).symm | exact (if_pos (by simp only [Int32.le_iff_toInt_le, Int32.lt_iff_toInt_lt, ← Int32.toInt_inj, Int32.reduceToInt] at *; omega)).symm, by first | exact Or.inl rfl | exact Or.inr ⟨rfl, by simp only [Int32.le_iff_toInt_le, Int32.lt_iff_toInt_lt, ← Int32.toInt_inj, Int32.reduceToInt] at *; omega, by simp only [Int32.le_iff_toInt_le, Int32.lt_iff_toInt_lt, ← Int32.toInt_inj, Int32.reduceToInt] at *; omega⟩⟩
        · skip
          refine mv_iload_n (pc := 24) B d_Book_letter_24 rfl 0 rfl ?_
          refine mv_bipush (pc := 25) (v := 95) B d_Book_letter_25 (by decide) ?_
          refine mv_icmp_ne (pc := 27) (tgt := 34) B d_Book_letter_27 rfl (fun h27 => ?_) (fun h27 => ?_)
          · skip
            refine mv_iconst (pc := 34) (v := 0) B d_Book_letter_34 (by decide) ?_
            exact mv_iret (pc := 35) B hr rfl d_Book_letter_35 (Nat.le_refl _) (Nat.le_refl _) ⟨_, rfl, rfl, by first | exact (if_neg (by simp only [Int32.le_iff_toInt_le, Int32.lt_iff_toInt_lt, ← Int32.toInt_inj, Int32.reduceToInt] at *; omega)).symm | exact (if_pos (by simp only [Int32.le_iff_toInt_le, Int32.lt_iff_toInt_lt, ← Int32.toInt_inj, Int32.reduceToInt] at *; omega)).symm, by first | exact Or.inl rfl | exact Or.inr ⟨rfl, by simp only [Int32.le_iff_toInt_le, Int32.lt_iff_toInt_lt, ← Int32.toInt_inj, Int32.reduceToInt] at *; omega, by simp only [Int32.le_iff_toInt_le, Int32.lt_iff_toInt_lt, ← Int32.toInt_inj, Int32.reduceToInt] at *; omega⟩⟩
          · skip
            refine mv_iconst (pc := 30) (v := 1) B d_Book_letter_30 (by decide) ?_
            refine mv_goto (pc := 31) (tgt := 35) B d_Book_letter_31 rfl ?_
            exact mv_iret (pc := 35) B hr rfl d_Book_letter_35 (Nat.le_refl _) (Nat.le_refl _) ⟨_, rfl, rfl, by first | exact (if_neg (by simp only [Int32.le_iff_toInt_le, Int32.lt_iff_toInt_lt, ← Int32.toInt_inj, Int32.reduceToInt] at *; omega)).symm | exact (if_pos (by simp only [Int32.le_iff_toInt_le, Int32.lt_iff_toInt_lt, ← Int32.toInt_inj, Int32.reduceToInt] at *; omega)).symm, by first | exact Or.inl rfl | exact Or.inr ⟨rfl, by simp only [Int32.le_iff_toInt_le, Int32.lt_iff_toInt_lt, ← Int32.toInt_inj, Int32.reduceToInt] at *; omega, by simp only [Int32.le_iff_toInt_le, Int32.lt_iff_toInt_lt, ← Int32.toInt_inj, Int32.reduceToInt] at *; omega⟩⟩
def y_Book_digit : MethodName := ⟨"MachineLoomModel$Book", "digit", "(I)Z"⟩
abbrev b_Book_digit : ByteArray := prog_15_method_5_code
theorem kc_Book_digit : Cond.code y_Book_digit b_Book_digit 1 (Option.some Jvm.ClassFile.FieldType.boolean) ∈ ma := ma_of (tb_9 _ (List.mem_of_getElem? (i := 211) rfl)) rfl
theorem d_Book_digit_0 : decode b_Book_digit 0 = .ok (.iload_n 0, 1) := by decide +kernel
theorem d_Book_digit_1 : decode b_Book_digit 1 = .ok (.bipush 48, 2) := by decide +kernel
theorem d_Book_digit_3 : decode b_Book_digit 3 = .ok (.if_icmp .lt (13), 3) := by decide +kernel
theorem d_Book_digit_6 : decode b_Book_digit 6 = .ok (.iload_n 0, 1) := by decide +kernel
theorem d_Book_digit_7 : decode b_Book_digit 7 = .ok (.bipush 57, 2) := by decide +kernel
theorem d_Book_digit_9 : decode b_Book_digit 9 = .ok (.if_icmp .gt (7), 3) := by decide +kernel
theorem d_Book_digit_12 : decode b_Book_digit 12 = .ok (.iconst 1, 1) := by decide +kernel
theorem d_Book_digit_13 : decode b_Book_digit 13 = .ok (.goto (4), 3) := by decide +kernel
theorem d_Book_digit_16 : decode b_Book_digit 16 = .ok (.iconst 0, 1) := by decide +kernel
theorem d_Book_digit_17 : decode b_Book_digit 17 = .ok (.ireturn, 1) := by decide +kernel
set_option maxHeartbeats 4000000 in
set_option maxRecDepth 100000 in
theorem c_Book_digit (l : Launch) {dA : FieldType → ClassId} {D : va_G} {al : Nat → Nat} {ext : mv_Sh} {sk sv : Nat → Nat} (hi : mv_inj (mg dA D al ext)) (σ : mv_H) (x : Int32) : mv_C l y_Book_digit (Cond.code y_Book_digit b_Book_digit 1 (Option.some Jvm.ClassFile.FieldType.boolean) :: ma) ({ frames := 0, cells := 0, slots := 0, locals := 0 }) (mg dA D al ext) (mK sk sv) [.int x] σ (mv_Ri (fun v σ1 => σ1 = σ ∧ (v = 0 ∨ (v = 1 ∧ 48 ≤ x.toInt ∧ x.toInt ≤ 57)))) := by
  refine mv_C.ofV (cc := b_Book_digit) (nL := 1) (ret := (Option.some Jvm.ClassFile.FieldType.boolean)) (by decide +kernel) rfl hi (Nat.le_of_ble_eq_true rfl) ?_
  intro p e s m below meth c B hNs hr hnm hno
  refine mv_iload_n (pc := 0) B d_Book_digit_0 rfl 0 rfl ?_
  refine mv_bipush (pc := 1) (v := 48) B d_Book_digit_1 (by decide) ?_
  refine mv_icmp_lt (pc := 3) (tgt := 16) B d_Book_digit_3 rfl (fun h3 => ?_) (fun h3 => ?_)
  · skip
    refine mv_iconst (pc := 16) (v := 0) B d_Book_digit_16 (by decide) ?_
    exact mv_iret (pc := 17) B hr rfl d_Book_digit_17 (Nat.le_refl _) (Nat.le_refl _) ⟨_, rfl, rfl, by first | exact Or.inl rfl | exact Or.inr ⟨rfl, by simp only [Int32.le_iff_toInt_le, Int32.lt_iff_toInt_lt, ← Int32.toInt_inj, Int32.reduceToInt] at *; omega, by simp only [Int32.le_iff_toInt_le, Int32.lt_iff_toInt_lt, ← Int32.toInt_inj, Int32.reduceToInt] at *; omega⟩⟩
  · skip
    refine mv_iload_n (pc := 6) B d_Book_digit_6 rfl 0 rfl ?_
    refine mv_bipush (pc := 7) (v := 57) B d_Book_digit_7 (by decide) ?_
    refine mv_icmp_gt (pc := 9) (tgt := 16) B d_Book_digit_9 rfl (fun h9 => ?_) (fun h9 => ?_)
    · skip
      refine mv_iconst (pc := 16) (v := 0) B d_Book_digit_16 (by decide) ?_
      exact mv_iret (pc := 17) B hr rfl d_Book_digit_17 (Nat.le_refl _) (Nat.le_refl _) ⟨_, rfl, rfl, by first | exact Or.inl rfl | exact Or.inr ⟨rfl, by simp only [Int32.le_iff_toInt_le, Int32.lt_iff_toInt_lt, ← Int32.toInt_inj, Int32.reduceToInt] at *; omega, by simp only [Int32.le_iff_toInt_le, Int32.lt_iff_toInt_lt, ← Int32.toInt_inj, Int32.reduceToInt] at *; omega⟩⟩
    · skip
      refine mv_iconst (pc := 12) (v := 1) B d_Book_digit_12 (by decide) ?_
      refine mv_goto (pc := 13) (tgt := 17) B d_Book_digit_13 rfl ?_
      exact mv_iret (pc := 17) B hr rfl d_Book_digit_17 (Nat.le_refl _) (Nat.le_refl _) ⟨_, rfl, rfl, by first | exact Or.inl rfl | exact Or.inr ⟨rfl, by simp only [Int32.le_iff_toInt_le, Int32.lt_iff_toInt_lt, ← Int32.toInt_inj, Int32.reduceToInt] at *; omega, by simp only [Int32.le_iff_toInt_le, Int32.lt_iff_toInt_lt, ← Int32.toInt_inj, Int32.reduceToInt] at *; omega⟩⟩
def y_Book_hex : MethodName := ⟨"MachineLoomModel$Book", "hex", "(I)I"⟩
abbrev b_Book_hex : ByteArray := prog_15_method_6_code
theorem kc_Book_hex : Cond.code y_Book_hex b_Book_hex 1 (Option.some Jvm.ClassFile.FieldType.int) ∈ ma := ma_of (tb_9 _ (List.mem_of_getElem? (i := 218) rfl)) rfl
theorem k_2129 : (Jvm.Cond.methodLink "MachineLoomModel$Book" (138 : Nat) ({ cls := "MachineLoomModel$Book", name := "digit", desc := "(I)Z" } : Jvm.MethodName)) ∈ ma := ma_of (tb_9 _ (List.mem_of_getElem? (i := 209) rfl)) rfl
theorem k_13 : (Jvm.Cond.initialized "MachineLoomModel$Book") ∈ ma := ma_of (tb_1 _ (List.mem_of_getElem? (i := 13) rfl)) rfl
theorem k_2130 : (Jvm.Cond.static ({ cls := "MachineLoomModel$Book", name := "digit", desc := "(I)Z" } : Jvm.MethodName)) ∈ ma := ma_of (tb_9 _ (List.mem_of_getElem? (i := 210) rfl)) rfl
theorem d_Book_hex_0 : decode b_Book_hex 0 = .ok (.iload_n 0, 1) := by decide +kernel
theorem d_Book_hex_1 : decode b_Book_hex 1 = .ok (.invokestatic 138, 3) := by decide +kernel
theorem d_Book_hex_4 : decode b_Book_hex 4 = .ok (.ifCond .eq (10), 3) := by decide +kernel
theorem d_Book_hex_7 : decode b_Book_hex 7 = .ok (.iload_n 0, 1) := by decide +kernel
theorem d_Book_hex_8 : decode b_Book_hex 8 = .ok (.bipush 48, 2) := by decide +kernel
theorem d_Book_hex_10 : decode b_Book_hex 10 = .ok (.isub, 1) := by decide +kernel
theorem d_Book_hex_11 : decode b_Book_hex 11 = .ok (.goto (48), 3) := by decide +kernel
theorem d_Book_hex_14 : decode b_Book_hex 14 = .ok (.iload_n 0, 1) := by decide +kernel
theorem d_Book_hex_15 : decode b_Book_hex 15 = .ok (.bipush 97, 2) := by decide +kernel
theorem d_Book_hex_17 : decode b_Book_hex 17 = .ok (.if_icmp .lt (19), 3) := by decide +kernel
theorem d_Book_hex_20 : decode b_Book_hex 20 = .ok (.iload_n 0, 1) := by decide +kernel
theorem d_Book_hex_21 : decode b_Book_hex 21 = .ok (.bipush 102, 2) := by decide +kernel
theorem d_Book_hex_23 : decode b_Book_hex 23 = .ok (.if_icmp .gt (13), 3) := by decide +kernel
theorem d_Book_hex_26 : decode b_Book_hex 26 = .ok (.iload_n 0, 1) := by decide +kernel
theorem d_Book_hex_27 : decode b_Book_hex 27 = .ok (.bipush 97, 2) := by decide +kernel
theorem d_Book_hex_29 : decode b_Book_hex 29 = .ok (.isub, 1) := by decide +kernel
theorem d_Book_hex_30 : decode b_Book_hex 30 = .ok (.bipush 10, 2) := by decide +kernel
theorem d_Book_hex_32 : decode b_Book_hex 32 = .ok (.iadd, 1) := by decide +kernel
theorem d_Book_hex_33 : decode b_Book_hex 33 = .ok (.goto (26), 3) := by decide +kernel
theorem d_Book_hex_36 : decode b_Book_hex 36 = .ok (.iload_n 0, 1) := by decide +kernel
theorem d_Book_hex_37 : decode b_Book_hex 37 = .ok (.bipush 65, 2) := by decide +kernel
theorem d_Book_hex_39 : decode b_Book_hex 39 = .ok (.if_icmp .lt (19), 3) := by decide +kernel
theorem d_Book_hex_42 : decode b_Book_hex 42 = .ok (.iload_n 0, 1) := by decide +kernel
theorem d_Book_hex_43 : decode b_Book_hex 43 = .ok (.bipush 70, 2) := by decide +kernel
theorem d_Book_hex_45 : decode b_Book_hex 45 = .ok (.if_icmp .gt (13), 3) := by decide +kernel
theorem d_Book_hex_48 : decode b_Book_hex 48 = .ok (.iload_n 0, 1) := by decide +kernel
theorem d_Book_hex_49 : decode b_Book_hex 49 = .ok (.bipush 65, 2) := by decide +kernel
theorem d_Book_hex_51 : decode b_Book_hex 51 = .ok (.isub, 1) := by decide +kernel
theorem d_Book_hex_52 : decode b_Book_hex 52 = .ok (.bipush 10, 2) := by decide +kernel
theorem d_Book_hex_54 : decode b_Book_hex 54 = .ok (.iadd, 1) := by decide +kernel
theorem d_Book_hex_55 : decode b_Book_hex 55 = .ok (.goto (4), 3) := by decide +kernel
theorem d_Book_hex_58 : decode b_Book_hex 58 = .ok (.iconst (-1), 1) := by decide +kernel
theorem d_Book_hex_59 : decode b_Book_hex 59 = .ok (.ireturn, 1) := by decide +kernel
set_option maxHeartbeats 4000000 in
set_option maxRecDepth 100000 in
theorem c_Book_hex (l : Launch) {dA : FieldType → ClassId} {D : va_G} {al : Nat → Nat} {ext : mv_Sh} {sk sv : Nat → Nat} (hi : mv_inj (mg dA D al ext)) (σ : mv_H) (x : Int32) : mv_C l y_Book_hex (Cond.code y_Book_hex b_Book_hex 1 (Option.some Jvm.ClassFile.FieldType.int) :: ma) ({ frames := 1, cells := 0, slots := 0, locals := 20 }) (mg dA D al ext) (mK sk sv) [.int x] σ (mv_Ri (fun v σ1 => σ1 = σ ∧ (v = -1 ∨ 48 ≤ x.toInt))) := by
  refine mv_C.ofV (cc := b_Book_hex) (nL := 1) (ret := (Option.some Jvm.ClassFile.FieldType.int)) (by decide +kernel) rfl hi (Nat.le_of_ble_eq_true rfl) ?_
  intro p e s m below meth c B hNs hr hnm hno
  refine mv_iload_n (pc := 0) B d_Book_hex_0 rfl 0 rfl ?_
  refine mv_callSi (pc := 1) (n := 1) B (mK_ok sk sv) hNs (c_Book_digit l hi _ _) rfl (ma_goodc kc_Book_digit) (B.2.2.2.1 _ k_2129) (B.2.2.2.1 _ k_2130) (B.2.2.2.1 _ k_13) ⟨by decide +kernel, by decide +kernel, by decide +kernel⟩ rfl d_Book_hex_1 rfl (Nat.le_of_ble_eq_true rfl) ⟨by decide, by decide⟩ ⟨by decide, by decide⟩ ⟨by decide, by decide⟩ (mv_noH hno _) (fun v1 σ1 h1 => ?_)
  obtain ⟨e1, z1⟩ := h1
  have e1 := e1.symm
  subst e1
  refine mv_if_eq (pc := 4) (tgt := 14) B d_Book_hex_4 rfl (fun h4 => ?_) (fun h4 => ?_)
  · skip
    refine mv_iload_n (pc := 14) B d_Book_hex_14 rfl 0 rfl ?_
    refine mv_bipush (pc := 15) (v := 97) B d_Book_hex_15 (by decide) ?_
    refine mv_icmp_lt (pc := 17) (tgt := 36) B d_Book_hex_17 rfl (fun h17 => ?_) (fun h17 => ?_)
    · skip
      refine mv_iload_n (pc := 36) B d_Book_hex_36 rfl 0 rfl ?_
      refine mv_bipush (pc := 37) (v := 65) B d_Book_hex_37 (by decide) ?_
      refine mv_icmp_lt (pc := 39) (tgt := 58) B d_Book_hex_39 rfl (fun h39 => ?_) (fun h39 => ?_)
      · skip
        refine mv_iconst (pc := 58) (v := -1) B d_Book_hex_58 (by decide) ?_
        exact mv_iret (pc := 59) B hr rfl d_Book_hex_59 (Nat.le_refl _) (Nat.le_refl _) ⟨_, rfl, rfl, by first | exact Or.inl rfl | (right; simp only [Int32.le_iff_toInt_le, Int32.lt_iff_toInt_lt, ← Int32.toInt_inj, Int32.reduceToInt] at *; omega) | (right; have z2 := z1.resolve_left h4; exact z2.2.1)⟩
      · skip
        refine mv_iload_n (pc := 42) B d_Book_hex_42 rfl 0 rfl ?_
        refine mv_bipush (pc := 43) (v := 70) B d_Book_hex_43 (by decide) ?_
        refine mv_icmp_gt (pc := 45) (tgt := 58) B d_Book_hex_45 rfl (fun h45 => ?_) (fun h45 => ?_)
        · skip
          refine mv_iconst (pc := 58) (v := -1) B d_Book_hex_58 (by decide) ?_
          exact mv_iret (pc := 59) B hr rfl d_Book_hex_59 (Nat.le_refl _) (Nat.le_refl _) ⟨_, rfl, rfl, by first | exact Or.inl rfl | (right; simp only [Int32.le_iff_toInt_le, Int32.lt_iff_toInt_lt, ← Int32.toInt_inj, Int32.reduceToInt] at *; omega) | (right; have z2 := z1.resolve_left h4; exact z2.2.1)⟩
        · skip
          refine mv_iload_n (pc := 48) B d_Book_hex_48 rfl 0 rfl ?_
          refine mv_bipush (pc := 49) (v := 65) B d_Book_hex_49 (by decide) ?_
          refine mv_isub (pc := 51) B d_Book_hex_51 ?_
          refine mv_bipush (pc := 52) (v := 10) B d_Book_hex_52 (by decide) ?_
          refine mv_iadd (pc := 54) B d_Book_hex_54 ?_
          refine mv_goto (pc := 55) (tgt := 59) B d_Book_hex_55 rfl ?_
          exact mv_iret (pc := 59) B hr rfl d_Book_hex_59 (Nat.le_refl _) (Nat.le_refl _) ⟨_, rfl, rfl, by first | exact Or.inl rfl | (right; simp only [Int32.le_iff_toInt_le, Int32.lt_iff_toInt_lt, ← Int32.toInt_inj, Int32.reduceToInt] at *; omega) | (right; have z2 := z1.resolve_left h4; exact z2.2.1)⟩
    · skip
      refine mv_iload_n (pc := 20) B d_Book_hex_20 rfl 0 rfl ?_
      refine mv_bipush (pc := 21) (v := 102) B d_Book_hex_21 (by decide) ?_
      refine mv_icmp_gt (pc := 23) (tgt := 36) B d_Book_hex_23 rfl (fun h23 => ?_) (fun h23 => ?_)
      · skip
        refine mv_iload_n (pc := 36) B d_Book_hex_36 rfl 0 rfl ?_
        refine mv_bipush (pc := 37) (v := 65) B d_Book_hex_37 (by decide) ?_
        refine mv_icmp_lt (pc := 39) (tgt := 58) B d_Book_hex_39 rfl (fun h39 => ?_) (fun h39 => ?_)
        · skip
          refine mv_iconst (pc := 58) (v := -1) B d_Book_hex_58 (by decide) ?_
          exact mv_iret (pc := 59) B hr rfl d_Book_hex_59 (Nat.le_refl _) (Nat.le_refl _) ⟨_, rfl, rfl, by first | exact Or.inl rfl | (right; simp only [Int32.le_iff_toInt_le, Int32.lt_iff_toInt_lt, ← Int32.toInt_inj, Int32.reduceToInt] at *; omega) | (right; have z2 := z1.resolve_left h4; exact z2.2.1)⟩
        · skip
          refine mv_iload_n (pc := 42) B d_Book_hex_42 rfl 0 rfl ?_
          refine mv_bipush (pc := 43) (v := 70) B d_Book_hex_43 (by decide) ?_
          refine mv_icmp_gt (pc := 45) (tgt := 58) B d_Book_hex_45 rfl (fun h45 => ?_) (fun h45 => ?_)
          · skip
            refine mv_iconst (pc := 58) (v := -1) B d_Book_hex_58 (by decide) ?_
            exact mv_iret (pc := 59) B hr rfl d_Book_hex_59 (Nat.le_refl _) (Nat.le_refl _) ⟨_, rfl, rfl, by first | exact Or.inl rfl | (right; simp only [Int32.le_iff_toInt_le, Int32.lt_iff_toInt_lt, ← Int32.toInt_inj, Int32.reduceToInt] at *; omega) | (right; have z2 := z1.resolve_left h4; exact z2.2.1)⟩
          · skip
            refine mv_iload_n (pc := 48) B d_Book_hex_48 rfl 0 rfl ?_
            refine mv_bipush (pc := 49) (v := 65) B d_Book_hex_49 (by decide) ?_
            refine mv_isub (pc := 51) B d_Book_hex_51 ?_
            refine mv_bipush (pc := 52) (v := 10) B d_Book_hex_52 (by decide) ?_
            refine mv_iadd (pc := 54) B d_Book_hex_54 ?_
            refine mv_goto (pc := 55) (tgt := 59) B d_Book_hex_55 rfl ?_
            exact mv_iret (pc := 59) B hr rfl d_Book_hex_59 (Nat.le_refl _) (Nat.le_refl _) ⟨_, rfl, rfl, by first | exact Or.inl rfl | (right; simp only [Int32.le_iff_toInt_le, Int32.lt_iff_toInt_lt, ← Int32.toInt_inj, Int32.reduceToInt] at *; omega) | (right; have z2 := z1.resolve_left h4; exact z2.2.1)⟩
      · skip
        refine mv_iload_n (pc := 26) B d_Book_hex_26 rfl 0 rfl ?_
        refine mv_bipush (pc := 27) (v := 97) B d_Book_hex_27 (by decide) ?_
        refine mv_isub (pc := 29) B d_Book_hex_29 ?_
        refine mv_bipush (pc := 30) (v := 10) B d_Book_hex_30 (by decide) ?_
        refine mv_iadd (pc := 32) B d_Book_hex_32 ?_
        refine mv_goto (pc := 33) (tgt := 59) B d_Book_hex_33 rfl ?_
        exact mv_iret (pc := 59) B hr rfl d_Book_hex_59 (Nat.le_refl _) (Nat.le_refl _) ⟨_, rfl, rfl, by first | exact Or.inl rfl | (right; simp only [Int32.le_iff_toInt_le, Int32.lt_iff_toInt_lt, ← Int32.toInt_inj, Int32.reduceToInt] at *; omega) | (right; have z2 := z1.resolve_left h4; exact z2.2.1)⟩
  · skip
    refine mv_iload_n (pc := 7) B d_Book_hex_7 rfl 0 rfl ?_
    refine mv_bipush (pc := 8) (v := 48) B d_Book_hex_8 (by decide) ?_
    refine mv_isub (pc := 10) B d_Book_hex_10 ?_
    refine mv_goto (pc := 11) (tgt := 59) B d_Book_hex_11 rfl ?_
    exact mv_iret (pc := 59) B hr rfl d_Book_hex_59 (Nat.le_refl _) (Nat.le_refl _) ⟨_, rfl, rfl, by first | exact Or.inl rfl | (right; simp only [Int32.le_iff_toInt_le, Int32.lt_iff_toInt_lt, ← Int32.toInt_inj, Int32.reduceToInt] at *; omega) | (right; have z2 := z1.resolve_left h4; exact z2.2.1)⟩
def y_Book_fits_0 : MethodName := ⟨"MachineLoomModel$Book", "fits", "(JII)Z"⟩
abbrev b_Book_fits_0 : ByteArray := prog_15_method_8_code
theorem kc_Book_fits_0 : Cond.code y_Book_fits_0 b_Book_fits_0 6 (Option.some Jvm.ClassFile.FieldType.boolean) ∈ ma := ma_of (tb_9 _ (List.mem_of_getElem? (i := 221) rfl)) rfl
theorem k_2142 : (Jvm.Cond.constantLong "MachineLoomModel$Book" (149 : Nat) (4294967295 : Int64)) ∈ ma := ma_of (tb_9 _ (List.mem_of_getElem? (i := 222) rfl)) rfl
theorem d_Book_fits_0_0 : decode b_Book_fits_0 0 = .ok (.lload_n 0, 1) := by decide +kernel
theorem d_Book_fits_0_1 : decode b_Book_fits_0 1 = .ok (.bipush 32, 2) := by decide +kernel
theorem d_Book_fits_0_3 : decode b_Book_fits_0 3 = .ok (.lushr, 1) := by decide +kernel
theorem d_Book_fits_0_4 : decode b_Book_fits_0 4 = .ok (.iload_n 2, 1) := by decide +kernel
theorem d_Book_fits_0_5 : decode b_Book_fits_0 5 = .ok (.i2l, 1) := by decide +kernel
theorem d_Book_fits_0_6 : decode b_Book_fits_0 6 = .ok (.lmul, 1) := by decide +kernel
theorem d_Book_fits_0_7 : decode b_Book_fits_0 7 = .ok (.lload_n 0, 1) := by decide +kernel
theorem d_Book_fits_0_8 : decode b_Book_fits_0 8 = .ok (.ldc2_w 149, 3) := by decide +kernel
theorem d_Book_fits_0_11 : decode b_Book_fits_0 11 = .ok (.land, 1) := by decide +kernel
theorem d_Book_fits_0_12 : decode b_Book_fits_0 12 = .ok (.iload_n 2, 1) := by decide +kernel
theorem d_Book_fits_0_13 : decode b_Book_fits_0 13 = .ok (.i2l, 1) := by decide +kernel
theorem d_Book_fits_0_14 : decode b_Book_fits_0 14 = .ok (.lmul, 1) := by decide +kernel
theorem d_Book_fits_0_15 : decode b_Book_fits_0 15 = .ok (.iload_n 3, 1) := by decide +kernel
theorem d_Book_fits_0_16 : decode b_Book_fits_0 16 = .ok (.i2l, 1) := by decide +kernel
theorem d_Book_fits_0_17 : decode b_Book_fits_0 17 = .ok (.ladd, 1) := by decide +kernel
theorem d_Book_fits_0_18 : decode b_Book_fits_0 18 = .ok (.bipush 32, 2) := by decide +kernel
theorem d_Book_fits_0_20 : decode b_Book_fits_0 20 = .ok (.lushr, 1) := by decide +kernel
theorem d_Book_fits_0_21 : decode b_Book_fits_0 21 = .ok (.ladd, 1) := by decide +kernel
theorem d_Book_fits_0_22 : decode b_Book_fits_0 22 = .ok (.lstore 4, 2) := by decide +kernel
theorem d_Book_fits_0_24 : decode b_Book_fits_0 24 = .ok (.lload 4, 2) := by decide +kernel
theorem d_Book_fits_0_26 : decode b_Book_fits_0 26 = .ok (.bipush 32, 2) := by decide +kernel
theorem d_Book_fits_0_28 : decode b_Book_fits_0 28 = .ok (.lushr, 1) := by decide +kernel
theorem d_Book_fits_0_29 : decode b_Book_fits_0 29 = .ok (.lconst 0, 1) := by decide +kernel
theorem d_Book_fits_0_30 : decode b_Book_fits_0 30 = .ok (.lcmp, 1) := by decide +kernel
theorem d_Book_fits_0_31 : decode b_Book_fits_0 31 = .ok (.ifCond .ne (7), 3) := by decide +kernel
theorem d_Book_fits_0_34 : decode b_Book_fits_0 34 = .ok (.iconst 1, 1) := by decide +kernel
theorem d_Book_fits_0_35 : decode b_Book_fits_0 35 = .ok (.goto (4), 3) := by decide +kernel
theorem d_Book_fits_0_38 : decode b_Book_fits_0 38 = .ok (.iconst 0, 1) := by decide +kernel
theorem d_Book_fits_0_39 : decode b_Book_fits_0 39 = .ok (.ireturn, 1) := by decide +kernel
set_option maxHeartbeats 4000000 in
set_option maxRecDepth 100000 in
theorem c_Book_fits_0 (l : Launch) {dA : FieldType → ClassId} {D : va_G} {al : Nat → Nat} {ext : mv_Sh} {sk sv : Nat → Nat} (hi : mv_inj (mg dA D al ext)) (σ : mv_H) (x : Int64) (y z : Int32) : mv_C l y_Book_fits_0 (Cond.code y_Book_fits_0 b_Book_fits_0 6 (Option.some Jvm.ClassFile.FieldType.boolean) :: ma) ({ frames := 0, cells := 0, slots := 0, locals := 0 }) (mg dA D al ext) (mK sk sv) [.long x, .int y, .int z] σ (mv_Ri (fun v σ1 => σ1 = σ ∧ (v = 0 ∨ v = 1))) := by
  refine mv_C.ofV (cc := b_Book_fits_0) (nL := 6) (ret := (Option.some Jvm.ClassFile.FieldType.boolean)) (by decide +kernel) rfl hi (Nat.le_of_ble_eq_true rfl) ?_
  intro p e s m below meth c B hNs hr hnm hno
  refine mv_lload_n (pc := 0) B d_Book_fits_0_0 rfl 0 rfl ?_
  refine mv_bipush (pc := 1) (v := 32) B d_Book_fits_0_1 (by decide) ?_
  refine mv_lushr (pc := 3) B d_Book_fits_0_3 ?_
  refine mv_iload_n (pc := 4) B d_Book_fits_0_4 rfl 1 rfl ?_
  refine mv_i2l (pc := 5) B d_Book_fits_0_5 ?_
  refine mv_lmul (pc := 6) B d_Book_fits_0_6 ?_
  refine mv_lload_n (pc := 7) B d_Book_fits_0_7 rfl 0 rfl ?_
  refine mv_ldc2 (pc := 8) (v := 4294967295) B (B.2.2.2.1 _ k_2142) d_Book_fits_0_8 ?_
  refine mv_land (pc := 11) B d_Book_fits_0_11 ?_
  refine mv_iload_n (pc := 12) B d_Book_fits_0_12 rfl 1 rfl ?_
  refine mv_i2l (pc := 13) B d_Book_fits_0_13 ?_
  refine mv_lmul (pc := 14) B d_Book_fits_0_14 ?_
  refine mv_iload_n (pc := 15) B d_Book_fits_0_15 rfl 2 rfl ?_
  refine mv_i2l (pc := 16) B d_Book_fits_0_16 ?_
  refine mv_ladd (pc := 17) B d_Book_fits_0_17 ?_
  refine mv_bipush (pc := 18) (v := 32) B d_Book_fits_0_18 (by decide) ?_
  refine mv_lushr (pc := 20) B d_Book_fits_0_20 ?_
  refine mv_ladd (pc := 21) B d_Book_fits_0_21 ?_
  refine mv_lstore (pc := 22) B d_Book_fits_0_22 (by decide) rfl ?_
  refine mv_lload (pc := 24) B d_Book_fits_0_24 0 rfl ?_
  refine mv_bipush (pc := 26) (v := 32) B d_Book_fits_0_26 (by decide) ?_
  refine mv_lushr (pc := 28) B d_Book_fits_0_28 ?_
  refine mv_lconst (pc := 29) (v := 0) B d_Book_fits_0_29 (by decide) ?_
  refine mv_lcmp (pc := 30) B d_Book_fits_0_30 ?_
  refine mv_if_ne (pc := 31) (tgt := 38) B d_Book_fits_0_31 rfl (fun h31 => ?_) (fun h31 => ?_)
  · skip
    refine mv_iconst (pc := 38) (v := 0) B d_Book_fits_0_38 (by decide) ?_
    exact mv_iret (pc := 39) B hr rfl d_Book_fits_0_39 (Nat.le_refl _) (Nat.le_refl _) ⟨_, rfl, rfl, by first | exact Or.inl rfl | exact Or.inr rfl⟩
  · skip
    refine mv_iconst (pc := 34) (v := 1) B d_Book_fits_0_34 (by decide) ?_
    refine mv_goto (pc := 35) (tgt := 39) B d_Book_fits_0_35 rfl ?_
    exact mv_iret (pc := 39) B hr rfl d_Book_fits_0_39 (Nat.le_refl _) (Nat.le_refl _) ⟨_, rfl, rfl, by first | exact Or.inl rfl | exact Or.inr rfl⟩
def y_Book_sign : MethodName := ⟨"MachineLoomModel$Book", "sign", "(I)Z"⟩
abbrev b_Book_sign : ByteArray := prog_15_method_12_code
theorem kc_Book_sign : Cond.code y_Book_sign b_Book_sign 1 (Option.some Jvm.ClassFile.FieldType.boolean) ∈ ma := ma_of (tb_9 _ (List.mem_of_getElem? (i := 233) rfl)) rfl
theorem d_Book_sign_0 : decode b_Book_sign 0 = .ok (.iload_n 0, 1) := by decide +kernel
theorem d_Book_sign_1 : decode b_Book_sign 1 = .ok (.tableswitch (393) (33) (126) #[391, 393, 393, 393, 391, 391, 391, 391, 391, 391, 391, 391, 391, 393, 391, 393, 393, 393, 393, 393, 393, 393, 393, 393, 393, 391, 391, 391, 391, 393, 391, 393, 393, 393, 393, 393, 393, 393, 393, 393, 393, 393, 393, 393, 393, 393, 393, 393, 393, 393, 393, 393, 393, 393, 393, 393, 393, 393, 391, 393, 391, 391, 393, 393, 393, 393, 393, 393, 393, 393, 393, 393, 393, 393, 393, 393, 393, 393, 393, 393, 393, 393, 393, 393, 393, 393, 393, 393, 393, 393, 391, 391, 391, 391], 391) := by decide +kernel
theorem d_Book_sign_392 : decode b_Book_sign 392 = .ok (.iconst 1, 1) := by decide +kernel
theorem d_Book_sign_393 : decode b_Book_sign 393 = .ok (.ireturn, 1) := by decide +kernel
theorem d_Book_sign_394 : decode b_Book_sign 394 = .ok (.iconst 0, 1) := by decide +kernel
theorem d_Book_sign_395 : decode b_Book_sign 395 = .ok (.ireturn, 1) := by decide +kernel
set_option maxHeartbeats 4000000 in
set_option maxRecDepth 100000 in
theorem c_Book_sign (l : Launch) {dA : FieldType → ClassId} {D : va_G} {al : Nat → Nat} {ext : mv_Sh} {sk sv : Nat → Nat} (hi : mv_inj (mg dA D al ext)) (σ : mv_H) (x : Int32) : mv_C l y_Book_sign (Cond.code y_Book_sign b_Book_sign 1 (Option.some Jvm.ClassFile.FieldType.boolean) :: ma) ({ frames := 0, cells := 0, slots := 0, locals := 0 }) (mg dA D al ext) (mK sk sv) [.int x] σ (mv_Ri (fun v σ1 => σ1 = σ ∧ (v = 0 ∨ (v = 1 ∧ 33 ≤ x.toInt ∧ x.toInt ≤ 126)))) := by
  refine mv_C.ofV (cc := b_Book_sign) (nL := 1) (ret := (Option.some Jvm.ClassFile.FieldType.boolean)) (by decide +kernel) rfl hi (Nat.le_of_ble_eq_true rfl) ?_
  intro p e s m below meth c B hNs hr hnm hno
  refine mv_iload_n (pc := 0) B d_Book_sign_0 rfl 0 rfl ?_
  refine mv_tsw (pc := 1) B d_Book_sign_1 (by decide) (by decide) ?_
  refine ⟨fun h1 => ?_, fun h1n33 => ?_⟩
  · skip
    refine mv_iconst (pc := 392) (v := 1) B d_Book_sign_392 (by decide) ?_
    exact mv_iret (pc := 393) B hr rfl d_Book_sign_393 (Nat.le_refl _) (Nat.le_refl _) ⟨_, rfl, rfl, by first | exact Or.inl rfl | exact Or.inr ⟨rfl, by omega, by omega⟩⟩
  refine ⟨fun h1 => ?_, fun h1n34 => ?_⟩
  · skip
    refine mv_iconst (pc := 394) (v := 0) B d_Book_sign_394 (by decide) ?_
    exact mv_iret (pc := 395) B hr rfl d_Book_sign_395 (Nat.le_refl _) (Nat.le_refl _) ⟨_, rfl, rfl, by first | exact Or.inl rfl | exact Or.inr ⟨rfl, by omega, by omega⟩⟩
  refine ⟨fun h1 => ?_, fun h1n35 => ?_⟩
  · skip
    refine mv_iconst (pc := 394) (v := 0) B d_Book_sign_394 (by decide) ?_
    exact mv_iret (pc := 395) B hr rfl d_Book_sign_395 (Nat.le_refl _) (Nat.le_refl _) ⟨_, rfl, rfl, by first | exact Or.inl rfl | exact Or.inr ⟨rfl, by omega, by omega⟩⟩
  refine ⟨fun h1 => ?_, fun h1n36 => ?_⟩
  · skip
    refine mv_iconst (pc := 394) (v := 0) B d_Book_sign_394 (by decide) ?_
    exact mv_iret (pc := 395) B hr rfl d_Book_sign_395 (Nat.le_refl _) (Nat.le_refl _) ⟨_, rfl, rfl, by first | exact Or.inl rfl | exact Or.inr ⟨rfl, by omega, by omega⟩⟩
  refine ⟨fun h1 => ?_, fun h1n37 => ?_⟩
  · skip
    refine mv_iconst (pc := 392) (v := 1) B d_Book_sign_392 (by decide) ?_
    exact mv_iret (pc := 393) B hr rfl d_Book_sign_393 (Nat.le_refl _) (Nat.le_refl _) ⟨_, rfl, rfl, by first | exact Or.inl rfl | exact Or.inr ⟨rfl, by omega, by omega⟩⟩
  refine ⟨fun h1 => ?_, fun h1n38 => ?_⟩
  · skip
    refine mv_iconst (pc := 392) (v := 1) B d_Book_sign_392 (by decide) ?_
    exact mv_iret (pc := 393) B hr rfl d_Book_sign_393 (Nat.le_refl _) (Nat.le_refl _) ⟨_, rfl, rfl, by first | exact Or.inl rfl | exact Or.inr ⟨rfl, by omega, by omega⟩⟩
  refine ⟨fun h1 => ?_, fun h1n39 => ?_⟩
  · skip
    refine mv_iconst (pc := 392) (v := 1) B d_Book_sign_392 (by decide) ?_
    exact mv_iret (pc := 393) B hr rfl d_Book_sign_393 (Nat.le_refl _) (Nat.le_refl _) ⟨_, rfl, rfl, by first | exact Or.inl rfl | exact Or.inr ⟨rfl, by omega, by omega⟩⟩
  refine ⟨fun h1 => ?_, fun h1n40 => ?_⟩
  · skip
    refine mv_iconst (pc := 392) (v := 1) B d_Book_sign_392 (by decide) ?_
    exact mv_iret (pc := 393) B hr rfl d_Book_sign_393 (Nat.le_refl _) (Nat.le_refl _) ⟨_, rfl, rfl, by first | exact Or.inl rfl | exact Or.inr ⟨rfl, by omega, by omega⟩⟩
  refine ⟨fun h1 => ?_, fun h1n41 => ?_⟩
  · skip
    refine mv_iconst (pc := 392) (v := 1) B d_Book_sign_392 (by decide) ?_
    exact mv_iret (pc := 393) B hr rfl d_Book_sign_393 (Nat.le_refl _) (Nat.le_refl _) ⟨_, rfl, rfl, by first | exact Or.inl rfl | exact Or.inr ⟨rfl, by omega, by omega⟩⟩
  refine ⟨fun h1 => ?_, fun h1n42 => ?_⟩
  · skip
    refine mv_iconst (pc := 392) (v := 1) B d_Book_sign_392 (by decide) ?_
    exact mv_iret (pc := 393) B hr rfl d_Book_sign_393 (Nat.le_refl _) (Nat.le_refl _) ⟨_, rfl, rfl, by first | exact Or.inl rfl | exact Or.inr ⟨rfl, by omega, by omega⟩⟩
  refine ⟨fun h1 => ?_, fun h1n43 => ?_⟩
  · skip
    refine mv_iconst (pc := 392) (v := 1) B d_Book_sign_392 (by decide) ?_
    exact mv_iret (pc := 393) B hr rfl d_Book_sign_393 (Nat.le_refl _) (Nat.le_refl _) ⟨_, rfl, rfl, by first | exact Or.inl rfl | exact Or.inr ⟨rfl, by omega, by omega⟩⟩
  refine ⟨fun h1 => ?_, fun h1n44 => ?_⟩
  · skip
    refine mv_iconst (pc := 392) (v := 1) B d_Book_sign_392 (by decide) ?_
    exact mv_iret (pc := 393) B hr rfl d_Book_sign_393 (Nat.le_refl _) (Nat.le_refl _) ⟨_, rfl, rfl, by first | exact Or.inl rfl | exact Or.inr ⟨rfl, by omega, by omega⟩⟩
  refine ⟨fun h1 => ?_, fun h1n45 => ?_⟩
  · skip
    refine mv_iconst (pc := 392) (v := 1) B d_Book_sign_392 (by decide) ?_
    exact mv_iret (pc := 393) B hr rfl d_Book_sign_393 (Nat.le_refl _) (Nat.le_refl _) ⟨_, rfl, rfl, by first | exact Or.inl rfl | exact Or.inr ⟨rfl, by omega, by omega⟩⟩
  refine ⟨fun h1 => ?_, fun h1n46 => ?_⟩
  · skip
    refine mv_iconst (pc := 394) (v := 0) B d_Book_sign_394 (by decide) ?_
    exact mv_iret (pc := 395) B hr rfl d_Book_sign_395 (Nat.le_refl _) (Nat.le_refl _) ⟨_, rfl, rfl, by first | exact Or.inl rfl | exact Or.inr ⟨rfl, by omega, by omega⟩⟩
  refine ⟨fun h1 => ?_, fun h1n47 => ?_⟩
  · skip
    refine mv_iconst (pc := 392) (v := 1) B d_Book_sign_392 (by decide) ?_
    exact mv_iret (pc := 393) B hr rfl d_Book_sign_393 (Nat.le_refl _) (Nat.le_refl _) ⟨_, rfl, rfl, by first | exact Or.inl rfl | exact Or.inr ⟨rfl, by omega, by omega⟩⟩
  refine ⟨fun h1 => ?_, fun h1n48 => ?_⟩
  · skip
    refine mv_iconst (pc := 394) (v := 0) B d_Book_sign_394 (by decide) ?_
    exact mv_iret (pc := 395) B hr rfl d_Book_sign_395 (Nat.le_refl _) (Nat.le_refl _) ⟨_, rfl, rfl, by first | exact Or.inl rfl | exact Or.inr ⟨rfl, by omega, by omega⟩⟩
  refine ⟨fun h1 => ?_, fun h1n49 => ?_⟩
  · skip
    refine mv_iconst (pc := 394) (v := 0) B d_Book_sign_394 (by decide) ?_
    exact mv_iret (pc := 395) B hr rfl d_Book_sign_395 (Nat.le_refl _) (Nat.le_refl _) ⟨_, rfl, rfl, by first | exact Or.inl rfl | exact Or.inr ⟨rfl, by omega, by omega⟩⟩
  refine ⟨fun h1 => ?_, fun h1n50 => ?_⟩
  · skip
    refine mv_iconst (pc := 394) (v := 0) B d_Book_sign_394 (by decide) ?_
    exact mv_iret (pc := 395) B hr rfl d_Book_sign_395 (Nat.le_refl _) (Nat.le_refl _) ⟨_, rfl, rfl, by first | exact Or.inl rfl | exact Or.inr ⟨rfl, by omega, by omega⟩⟩
  refine ⟨fun h1 => ?_, fun h1n51 => ?_⟩
  · skip
    refine mv_iconst (pc := 394) (v := 0) B d_Book_sign_394 (by decide) ?_
    exact mv_iret (pc := 395) B hr rfl d_Book_sign_395 (Nat.le_refl _) (Nat.le_refl _) ⟨_, rfl, rfl, by first | exact Or.inl rfl | exact Or.inr ⟨rfl, by omega, by omega⟩⟩
  refine ⟨fun h1 => ?_, fun h1n52 => ?_⟩
  · skip
    refine mv_iconst (pc := 394) (v := 0) B d_Book_sign_394 (by decide) ?_
    exact mv_iret (pc := 395) B hr rfl d_Book_sign_395 (Nat.le_refl _) (Nat.le_refl _) ⟨_, rfl, rfl, by first | exact Or.inl rfl | exact Or.inr ⟨rfl, by omega, by omega⟩⟩
  refine ⟨fun h1 => ?_, fun h1n53 => ?_⟩
  · skip
    refine mv_iconst (pc := 394) (v := 0) B d_Book_sign_394 (by decide) ?_
    exact mv_iret (pc := 395) B hr rfl d_Book_sign_395 (Nat.le_refl _) (Nat.le_refl _) ⟨_, rfl, rfl, by first | exact Or.inl rfl | exact Or.inr ⟨rfl, by omega, by omega⟩⟩
  refine ⟨fun h1 => ?_, fun h1n54 => ?_⟩
  · skip
    refine mv_iconst (pc := 394) (v := 0) B d_Book_sign_394 (by decide) ?_
    exact mv_iret (pc := 395) B hr rfl d_Book_sign_395 (Nat.le_refl _) (Nat.le_refl _) ⟨_, rfl, rfl, by first | exact Or.inl rfl | exact Or.inr ⟨rfl, by omega, by omega⟩⟩
  refine ⟨fun h1 => ?_, fun h1n55 => ?_⟩
  · skip
    refine mv_iconst (pc := 394) (v := 0) B d_Book_sign_394 (by decide) ?_
    exact mv_iret (pc := 395) B hr rfl d_Book_sign_395 (Nat.le_refl _) (Nat.le_refl _) ⟨_, rfl, rfl, by first | exact Or.inl rfl | exact Or.inr ⟨rfl, by omega, by omega⟩⟩
  refine ⟨fun h1 => ?_, fun h1n56 => ?_⟩
  · skip
    refine mv_iconst (pc := 394) (v := 0) B d_Book_sign_394 (by decide) ?_
    exact mv_iret (pc := 395) B hr rfl d_Book_sign_395 (Nat.le_refl _) (Nat.le_refl _) ⟨_, rfl, rfl, by first | exact Or.inl rfl | exact Or.inr ⟨rfl, by omega, by omega⟩⟩
  refine ⟨fun h1 => ?_, fun h1n57 => ?_⟩
  · skip
    refine mv_iconst (pc := 394) (v := 0) B d_Book_sign_394 (by decide) ?_
    exact mv_iret (pc := 395) B hr rfl d_Book_sign_395 (Nat.le_refl _) (Nat.le_refl _) ⟨_, rfl, rfl, by first | exact Or.inl rfl | exact Or.inr ⟨rfl, by omega, by omega⟩⟩
  refine ⟨fun h1 => ?_, fun h1n58 => ?_⟩
  · skip
    refine mv_iconst (pc := 392) (v := 1) B d_Book_sign_392 (by decide) ?_
    exact mv_iret (pc := 393) B hr rfl d_Book_sign_393 (Nat.le_refl _) (Nat.le_refl _) ⟨_, rfl, rfl, by first | exact Or.inl rfl | exact Or.inr ⟨rfl, by omega, by omega⟩⟩
  refine ⟨fun h1 => ?_, fun h1n59 => ?_⟩
  · skip
    refine mv_iconst (pc := 392) (v := 1) B d_Book_sign_392 (by decide) ?_
    exact mv_iret (pc := 393) B hr rfl d_Book_sign_393 (Nat.le_refl _) (Nat.le_refl _) ⟨_, rfl, rfl, by first | exact Or.inl rfl | exact Or.inr ⟨rfl, by omega, by omega⟩⟩
  refine ⟨fun h1 => ?_, fun h1n60 => ?_⟩
  · skip
    refine mv_iconst (pc := 392) (v := 1) B d_Book_sign_392 (by decide) ?_
    exact mv_iret (pc := 393) B hr rfl d_Book_sign_393 (Nat.le_refl _) (Nat.le_refl _) ⟨_, rfl, rfl, by first | exact Or.inl rfl | exact Or.inr ⟨rfl, by omega, by omega⟩⟩
  refine ⟨fun h1 => ?_, fun h1n61 => ?_⟩
  · skip
    refine mv_iconst (pc := 392) (v := 1) B d_Book_sign_392 (by decide) ?_
    exact mv_iret (pc := 393) B hr rfl d_Book_sign_393 (Nat.le_refl _) (Nat.le_refl _) ⟨_, rfl, rfl, by first | exact Or.inl rfl | exact Or.inr ⟨rfl, by omega, by omega⟩⟩
  refine ⟨fun h1 => ?_, fun h1n62 => ?_⟩
  · skip
    refine mv_iconst (pc := 394) (v := 0) B d_Book_sign_394 (by decide) ?_
    exact mv_iret (pc := 395) B hr rfl d_Book_sign_395 (Nat.le_refl _) (Nat.le_refl _) ⟨_, rfl, rfl, by first | exact Or.inl rfl | exact Or.inr ⟨rfl, by omega, by omega⟩⟩
  refine ⟨fun h1 => ?_, fun h1n63 => ?_⟩
  · skip
    refine mv_iconst (pc := 392) (v := 1) B d_Book_sign_392 (by decide) ?_
    exact mv_iret (pc := 393) B hr rfl d_Book_sign_393 (Nat.le_refl _) (Nat.le_refl _) ⟨_, rfl, rfl, by first | exact Or.inl rfl | exact Or.inr ⟨rfl, by omega, by omega⟩⟩
  refine ⟨fun h1 => ?_, fun h1n64 => ?_⟩
  · skip
    refine mv_iconst (pc := 394) (v := 0) B d_Book_sign_394 (by decide) ?_
    exact mv_iret (pc := 395) B hr rfl d_Book_sign_395 (Nat.le_refl _) (Nat.le_refl _) ⟨_, rfl, rfl, by first | exact Or.inl rfl | exact Or.inr ⟨rfl, by omega, by omega⟩⟩
  refine ⟨fun h1 => ?_, fun h1n65 => ?_⟩
  · skip
    refine mv_iconst (pc := 394) (v := 0) B d_Book_sign_394 (by decide) ?_
    exact mv_iret (pc := 395) B hr rfl d_Book_sign_395 (Nat.le_refl _) (Nat.le_refl _) ⟨_, rfl, rfl, by first | exact Or.inl rfl | exact Or.inr ⟨rfl, by omega, by omega⟩⟩
  refine ⟨fun h1 => ?_, fun h1n66 => ?_⟩
  · skip
    refine mv_iconst (pc := 394) (v := 0) B d_Book_sign_394 (by decide) ?_
    exact mv_iret (pc := 395) B hr rfl d_Book_sign_395 (Nat.le_refl _) (Nat.le_refl _) ⟨_, rfl, rfl, by first | exact Or.inl rfl | exact Or.inr ⟨rfl, by omega, by omega⟩⟩
  refine ⟨fun h1 => ?_, fun h1n67 => ?_⟩
  · skip
    refine mv_iconst (pc := 394) (v := 0) B d_Book_sign_394 (by decide) ?_
    exact mv_iret (pc := 395) B hr rfl d_Book_sign_395 (Nat.le_refl _) (Nat.le_refl _) ⟨_, rfl, rfl, by first | exact Or.inl rfl | exact Or.inr ⟨rfl, by omega, by omega⟩⟩
  refine ⟨fun h1 => ?_, fun h1n68 => ?_⟩
  · skip
    refine mv_iconst (pc := 394) (v := 0) B d_Book_sign_394 (by decide) ?_
    exact mv_iret (pc := 395) B hr rfl d_Book_sign_395 (Nat.le_refl _) (Nat.le_refl _) ⟨_, rfl, rfl, by first | exact Or.inl rfl | exact Or.inr ⟨rfl, by omega, by omega⟩⟩
  refine ⟨fun h1 => ?_, fun h1n69 => ?_⟩
  · skip
    refine mv_iconst (pc := 394) (v := 0) B d_Book_sign_394 (by decide) ?_
    exact mv_iret (pc := 395) B hr rfl d_Book_sign_395 (Nat.le_refl _) (Nat.le_refl _) ⟨_, rfl, rfl, by first | exact Or.inl rfl | exact Or.inr ⟨rfl, by omega, by omega⟩⟩
  refine ⟨fun h1 => ?_, fun h1n70 => ?_⟩
  · skip
    refine mv_iconst (pc := 394) (v := 0) B d_Book_sign_394 (by decide) ?_
    exact mv_iret (pc := 395) B hr rfl d_Book_sign_395 (Nat.le_refl _) (Nat.le_refl _) ⟨_, rfl, rfl, by first | exact Or.inl rfl | exact Or.inr ⟨rfl, by omega, by omega⟩⟩
  refine ⟨fun h1 => ?_, fun h1n71 => ?_⟩
  · skip
    refine mv_iconst (pc := 394) (v := 0) B d_Book_sign_394 (by decide) ?_
    exact mv_iret (pc := 395) B hr rfl d_Book_sign_395 (Nat.le_refl _) (Nat.le_refl _) ⟨_, rfl, rfl, by first | exact Or.inl rfl | exact Or.inr ⟨rfl, by omega, by omega⟩⟩
  refine ⟨fun h1 => ?_, fun h1n72 => ?_⟩
  · skip
    refine mv_iconst (pc := 394) (v := 0) B d_Book_sign_394 (by decide) ?_
    exact mv_iret (pc := 395) B hr rfl d_Book_sign_395 (Nat.le_refl _) (Nat.le_refl _) ⟨_, rfl, rfl, by first | exact Or.inl rfl | exact Or.inr ⟨rfl, by omega, by omega⟩⟩
  refine ⟨fun h1 => ?_, fun h1n73 => ?_⟩
  · skip
    refine mv_iconst (pc := 394) (v := 0) B d_Book_sign_394 (by decide) ?_
    exact mv_iret (pc := 395) B hr rfl d_Book_sign_395 (Nat.le_refl _) (Nat.le_refl _) ⟨_, rfl, rfl, by first | exact Or.inl rfl | exact Or.inr ⟨rfl, by omega, by omega⟩⟩
  refine ⟨fun h1 => ?_, fun h1n74 => ?_⟩
  · skip
    refine mv_iconst (pc := 394) (v := 0) B d_Book_sign_394 (by decide) ?_
    exact mv_iret (pc := 395) B hr rfl d_Book_sign_395 (Nat.le_refl _) (Nat.le_refl _) ⟨_, rfl, rfl, by first | exact Or.inl rfl | exact Or.inr ⟨rfl, by omega, by omega⟩⟩
  refine ⟨fun h1 => ?_, fun h1n75 => ?_⟩
  · skip
    refine mv_iconst (pc := 394) (v := 0) B d_Book_sign_394 (by decide) ?_
    exact mv_iret (pc := 395) B hr rfl d_Book_sign_395 (Nat.le_refl _) (Nat.le_refl _) ⟨_, rfl, rfl, by first | exact Or.inl rfl | exact Or.inr ⟨rfl, by omega, by omega⟩⟩
  refine ⟨fun h1 => ?_, fun h1n76 => ?_⟩
  · skip
    refine mv_iconst (pc := 394) (v := 0) B d_Book_sign_394 (by decide) ?_
    exact mv_iret (pc := 395) B hr rfl d_Book_sign_395 (Nat.le_refl _) (Nat.le_refl _) ⟨_, rfl, rfl, by first | exact Or.inl rfl | exact Or.inr ⟨rfl, by omega, by omega⟩⟩
  refine ⟨fun h1 => ?_, fun h1n77 => ?_⟩
  · skip
    refine mv_iconst (pc := 394) (v := 0) B d_Book_sign_394 (by decide) ?_
    exact mv_iret (pc := 395) B hr rfl d_Book_sign_395 (Nat.le_refl _) (Nat.le_refl _) ⟨_, rfl, rfl, by first | exact Or.inl rfl | exact Or.inr ⟨rfl, by omega, by omega⟩⟩
  refine ⟨fun h1 => ?_, fun h1n78 => ?_⟩
  · skip
    refine mv_iconst (pc := 394) (v := 0) B d_Book_sign_394 (by decide) ?_
    exact mv_iret (pc := 395) B hr rfl d_Book_sign_395 (Nat.le_refl _) (Nat.le_refl _) ⟨_, rfl, rfl, by first | exact Or.inl rfl | exact Or.inr ⟨rfl, by omega, by omega⟩⟩
  refine ⟨fun h1 => ?_, fun h1n79 => ?_⟩
  · skip
    refine mv_iconst (pc := 394) (v := 0) B d_Book_sign_394 (by decide) ?_
    exact mv_iret (pc := 395) B hr rfl d_Book_sign_395 (Nat.le_refl _) (Nat.le_refl _) ⟨_, rfl, rfl, by first | exact Or.inl rfl | exact Or.inr ⟨rfl, by omega, by omega⟩⟩
  refine ⟨fun h1 => ?_, fun h1n80 => ?_⟩
  · skip
    refine mv_iconst (pc := 394) (v := 0) B d_Book_sign_394 (by decide) ?_
    exact mv_iret (pc := 395) B hr rfl d_Book_sign_395 (Nat.le_refl _) (Nat.le_refl _) ⟨_, rfl, rfl, by first | exact Or.inl rfl | exact Or.inr ⟨rfl, by omega, by omega⟩⟩
  refine ⟨fun h1 => ?_, fun h1n81 => ?_⟩
  · skip
    refine mv_iconst (pc := 394) (v := 0) B d_Book_sign_394 (by decide) ?_
    exact mv_iret (pc := 395) B hr rfl d_Book_sign_395 (Nat.le_refl _) (Nat.le_refl _) ⟨_, rfl, rfl, by first | exact Or.inl rfl | exact Or.inr ⟨rfl, by omega, by omega⟩⟩
  refine ⟨fun h1 => ?_, fun h1n82 => ?_⟩
  · skip
    refine mv_iconst (pc := 394) (v := 0) B d_Book_sign_394 (by decide) ?_
    exact mv_iret (pc := 395) B hr rfl d_Book_sign_395 (Nat.le_refl _) (Nat.le_refl _) ⟨_, rfl, rfl, by first | exact Or.inl rfl | exact Or.inr ⟨rfl, by omega, by omega⟩⟩
  refine ⟨fun h1 => ?_, fun h1n83 => ?_⟩
  · skip
    refine mv_iconst (pc := 394) (v := 0) B d_Book_sign_394 (by decide) ?_
    exact mv_iret (pc := 395) B hr rfl d_Book_sign_395 (Nat.le_refl _) (Nat.le_refl _) ⟨_, rfl, rfl, by first | exact Or.inl rfl | exact Or.inr ⟨rfl, by omega, by omega⟩⟩
  refine ⟨fun h1 => ?_, fun h1n84 => ?_⟩
  · skip
    refine mv_iconst (pc := 394) (v := 0) B d_Book_sign_394 (by decide) ?_
    exact mv_iret (pc := 395) B hr rfl d_Book_sign_395 (Nat.le_refl _) (Nat.le_refl _) ⟨_, rfl, rfl, by first | exact Or.inl rfl | exact Or.inr ⟨rfl, by omega, by omega⟩⟩
  refine ⟨fun h1 => ?_, fun h1n85 => ?_⟩
  · skip
    refine mv_iconst (pc := 394) (v := 0) B d_Book_sign_394 (by decide) ?_
    exact mv_iret (pc := 395) B hr rfl d_Book_sign_395 (Nat.le_refl _) (Nat.le_refl _) ⟨_, rfl, rfl, by first | exact Or.inl rfl | exact Or.inr ⟨rfl, by omega, by omega⟩⟩
  refine ⟨fun h1 => ?_, fun h1n86 => ?_⟩
  · skip
    refine mv_iconst (pc := 394) (v := 0) B d_Book_sign_394 (by decide) ?_
    exact mv_iret (pc := 395) B hr rfl d_Book_sign_395 (Nat.le_refl _) (Nat.le_refl _) ⟨_, rfl, rfl, by first | exact Or.inl rfl | exact Or.inr ⟨rfl, by omega, by omega⟩⟩
  refine ⟨fun h1 => ?_, fun h1n87 => ?_⟩
  · skip
    refine mv_iconst (pc := 394) (v := 0) B d_Book_sign_394 (by decide) ?_
    exact mv_iret (pc := 395) B hr rfl d_Book_sign_395 (Nat.le_refl _) (Nat.le_refl _) ⟨_, rfl, rfl, by first | exact Or.inl rfl | exact Or.inr ⟨rfl, by omega, by omega⟩⟩
  refine ⟨fun h1 => ?_, fun h1n88 => ?_⟩
  · skip
    refine mv_iconst (pc := 394) (v := 0) B d_Book_sign_394 (by decide) ?_
    exact mv_iret (pc := 395) B hr rfl d_Book_sign_395 (Nat.le_refl _) (Nat.le_refl _) ⟨_, rfl, rfl, by first | exact Or.inl rfl | exact Or.inr ⟨rfl, by omega, by omega⟩⟩
  refine ⟨fun h1 => ?_, fun h1n89 => ?_⟩
  · skip
    refine mv_iconst (pc := 394) (v := 0) B d_Book_sign_394 (by decide) ?_
    exact mv_iret (pc := 395) B hr rfl d_Book_sign_395 (Nat.le_refl _) (Nat.le_refl _) ⟨_, rfl, rfl, by first | exact Or.inl rfl | exact Or.inr ⟨rfl, by omega, by omega⟩⟩
  refine ⟨fun h1 => ?_, fun h1n90 => ?_⟩
  · skip
    refine mv_iconst (pc := 394) (v := 0) B d_Book_sign_394 (by decide) ?_
    exact mv_iret (pc := 395) B hr rfl d_Book_sign_395 (Nat.le_refl _) (Nat.le_refl _) ⟨_, rfl, rfl, by first | exact Or.inl rfl | exact Or.inr ⟨rfl, by omega, by omega⟩⟩
  refine ⟨fun h1 => ?_, fun h1n91 => ?_⟩
  · skip
    refine mv_iconst (pc := 392) (v := 1) B d_Book_sign_392 (by decide) ?_
    exact mv_iret (pc := 393) B hr rfl d_Book_sign_393 (Nat.le_refl _) (Nat.le_refl _) ⟨_, rfl, rfl, by first | exact Or.inl rfl | exact Or.inr ⟨rfl, by omega, by omega⟩⟩
  refine ⟨fun h1 => ?_, fun h1n92 => ?_⟩
  · skip
    refine mv_iconst (pc := 394) (v := 0) B d_Book_sign_394 (by decide) ?_
    exact mv_iret (pc := 395) B hr rfl d_Book_sign_395 (Nat.le_refl _) (Nat.le_refl _) ⟨_, rfl, rfl, by first | exact Or.inl rfl | exact Or.inr ⟨rfl, by omega, by omega⟩⟩
  refine ⟨fun h1 => ?_, fun h1n93 => ?_⟩
  · skip
    refine mv_iconst (pc := 392) (v := 1) B d_Book_sign_392 (by decide) ?_
    exact mv_iret (pc := 393) B hr rfl d_Book_sign_393 (Nat.le_refl _) (Nat.le_refl _) ⟨_, rfl, rfl, by first | exact Or.inl rfl | exact Or.inr ⟨rfl, by omega, by omega⟩⟩
  refine ⟨fun h1 => ?_, fun h1n94 => ?_⟩
  · skip
    refine mv_iconst (pc := 392) (v := 1) B d_Book_sign_392 (by decide) ?_
    exact mv_iret (pc := 393) B hr rfl d_Book_sign_393 (Nat.le_refl _) (Nat.le_refl _) ⟨_, rfl, rfl, by first | exact Or.inl rfl | exact Or.inr ⟨rfl, by omega, by omega⟩⟩
  refine ⟨fun h1 => ?_, fun h1n95 => ?_⟩
  · skip
    refine mv_iconst (pc := 394) (v := 0) B d_Book_sign_394 (by decide) ?_
    exact mv_iret (pc := 395) B hr rfl d_Book_sign_395 (Nat.le_refl _) (Nat.le_refl _) ⟨_, rfl, rfl, by first | exact Or.inl rfl | exact Or.inr ⟨rfl, by omega, by omega⟩⟩
  refine ⟨fun h1 => ?_, fun h1n96 => ?_⟩
  · skip
    refine mv_iconst (pc := 394) (v := 0) B d_Book_sign_394 (by decide) ?_
    exact mv_iret (pc := 395) B hr rfl d_Book_sign_395 (Nat.le_refl _) (Nat.le_refl _) ⟨_, rfl, rfl, by first | exact Or.inl rfl | exact Or.inr ⟨rfl, by omega, by omega⟩⟩
  refine ⟨fun h1 => ?_, fun h1n97 => ?_⟩
  · skip
    refine mv_iconst (pc := 394) (v := 0) B d_Book_sign_394 (by decide) ?_
    exact mv_iret (pc := 395) B hr rfl d_Book_sign_395 (Nat.le_refl _) (Nat.le_refl _) ⟨_, rfl, rfl, by first | exact Or.inl rfl | exact Or.inr ⟨rfl, by omega, by omega⟩⟩
  refine ⟨fun h1 => ?_, fun h1n98 => ?_⟩
  · skip
    refine mv_iconst (pc := 394) (v := 0) B d_Book_sign_394 (by decide) ?_
    exact mv_iret (pc := 395) B hr rfl d_Book_sign_395 (Nat.le_refl _) (Nat.le_refl _) ⟨_, rfl, rfl, by first | exact Or.inl rfl | exact Or.inr ⟨rfl, by omega, by omega⟩⟩
  refine ⟨fun h1 => ?_, fun h1n99 => ?_⟩
  · skip
    refine mv_iconst (pc := 394) (v := 0) B d_Book_sign_394 (by decide) ?_
    exact mv_iret (pc := 395) B hr rfl d_Book_sign_395 (Nat.le_refl _) (Nat.le_refl _) ⟨_, rfl, rfl, by first | exact Or.inl rfl | exact Or.inr ⟨rfl, by omega, by omega⟩⟩
  refine ⟨fun h1 => ?_, fun h1n100 => ?_⟩
  · skip
    refine mv_iconst (pc := 394) (v := 0) B d_Book_sign_394 (by decide) ?_
    exact mv_iret (pc := 395) B hr rfl d_Book_sign_395 (Nat.le_refl _) (Nat.le_refl _) ⟨_, rfl, rfl, by first | exact Or.inl rfl | exact Or.inr ⟨rfl, by omega, by omega⟩⟩
  refine ⟨fun h1 => ?_, fun h1n101 => ?_⟩
  · skip
    refine mv_iconst (pc := 394) (v := 0) B d_Book_sign_394 (by decide) ?_
    exact mv_iret (pc := 395) B hr rfl d_Book_sign_395 (Nat.le_refl _) (Nat.le_refl _) ⟨_, rfl, rfl, by first | exact Or.inl rfl | exact Or.inr ⟨rfl, by omega, by omega⟩⟩
  refine ⟨fun h1 => ?_, fun h1n102 => ?_⟩
  · skip
    refine mv_iconst (pc := 394) (v := 0) B d_Book_sign_394 (by decide) ?_
    exact mv_iret (pc := 395) B hr rfl d_Book_sign_395 (Nat.le_refl _) (Nat.le_refl _) ⟨_, rfl, rfl, by first | exact Or.inl rfl | exact Or.inr ⟨rfl, by omega, by omega⟩⟩
  refine ⟨fun h1 => ?_, fun h1n103 => ?_⟩
  · skip
    refine mv_iconst (pc := 394) (v := 0) B d_Book_sign_394 (by decide) ?_
    exact mv_iret (pc := 395) B hr rfl d_Book_sign_395 (Nat.le_refl _) (Nat.le_refl _) ⟨_, rfl, rfl, by first | exact Or.inl rfl | exact Or.inr ⟨rfl, by omega, by omega⟩⟩
  refine ⟨fun h1 => ?_, fun h1n104 => ?_⟩
  · skip
    refine mv_iconst (pc := 394) (v := 0) B d_Book_sign_394 (by decide) ?_
    exact mv_iret (pc := 395) B hr rfl d_Book_sign_395 (Nat.le_refl _) (Nat.le_refl _) ⟨_, rfl, rfl, by first | exact Or.inl rfl | exact Or.inr ⟨rfl, by omega, by omega⟩⟩
  refine ⟨fun h1 => ?_, fun h1n105 => ?_⟩
  · skip
    refine mv_iconst (pc := 394) (v := 0) B d_Book_sign_394 (by decide) ?_
    exact mv_iret (pc := 395) B hr rfl d_Book_sign_395 (Nat.le_refl _) (Nat.le_refl _) ⟨_, rfl, rfl, by first | exact Or.inl rfl | exact Or.inr ⟨rfl, by omega, by omega⟩⟩
  refine ⟨fun h1 => ?_, fun h1n106 => ?_⟩
  · skip
    refine mv_iconst (pc := 394) (v := 0) B d_Book_sign_394 (by decide) ?_
    exact mv_iret (pc := 395) B hr rfl d_Book_sign_395 (Nat.le_refl _) (Nat.le_refl _) ⟨_, rfl, rfl, by first | exact Or.inl rfl | exact Or.inr ⟨rfl, by omega, by omega⟩⟩
  refine ⟨fun h1 => ?_, fun h1n107 => ?_⟩
  · skip
    refine mv_iconst (pc := 394) (v := 0) B d_Book_sign_394 (by decide) ?_
    exact mv_iret (pc := 395) B hr rfl d_Book_sign_395 (Nat.le_refl _) (Nat.le_refl _) ⟨_, rfl, rfl, by first | exact Or.inl rfl | exact Or.inr ⟨rfl, by omega, by omega⟩⟩
  refine ⟨fun h1 => ?_, fun h1n108 => ?_⟩
  · skip
    refine mv_iconst (pc := 394) (v := 0) B d_Book_sign_394 (by decide) ?_
    exact mv_iret (pc := 395) B hr rfl d_Book_sign_395 (Nat.le_refl _) (Nat.le_refl _) ⟨_, rfl, rfl, by first | exact Or.inl rfl | exact Or.inr ⟨rfl, by omega, by omega⟩⟩
  refine ⟨fun h1 => ?_, fun h1n109 => ?_⟩
  · skip
    refine mv_iconst (pc := 394) (v := 0) B d_Book_sign_394 (by decide) ?_
    exact mv_iret (pc := 395) B hr rfl d_Book_sign_395 (Nat.le_refl _) (Nat.le_refl _) ⟨_, rfl, rfl, by first | exact Or.inl rfl | exact Or.inr ⟨rfl, by omega, by omega⟩⟩
  refine ⟨fun h1 => ?_, fun h1n110 => ?_⟩
  · skip
    refine mv_iconst (pc := 394) (v := 0) B d_Book_sign_394 (by decide) ?_
    exact mv_iret (pc := 395) B hr rfl d_Book_sign_395 (Nat.le_refl _) (Nat.le_refl _) ⟨_, rfl, rfl, by first | exact Or.inl rfl | exact Or.inr ⟨rfl, by omega, by omega⟩⟩
  refine ⟨fun h1 => ?_, fun h1n111 => ?_⟩
  · skip
    refine mv_iconst (pc := 394) (v := 0) B d_Book_sign_394 (by decide) ?_
    exact mv_iret (pc := 395) B hr rfl d_Book_sign_395 (Nat.le_refl _) (Nat.le_refl _) ⟨_, rfl, rfl, by first | exact Or.inl rfl | exact Or.inr ⟨rfl, by omega, by omega⟩⟩
  refine ⟨fun h1 => ?_, fun h1n112 => ?_⟩
  · skip
    refine mv_iconst (pc := 394) (v := 0) B d_Book_sign_394 (by decide) ?_
    exact mv_iret (pc := 395) B hr rfl d_Book_sign_395 (Nat.le_refl _) (Nat.le_refl _) ⟨_, rfl, rfl, by first | exact Or.inl rfl | exact Or.inr ⟨rfl, by omega, by omega⟩⟩
  refine ⟨fun h1 => ?_, fun h1n113 => ?_⟩
  · skip
    refine mv_iconst (pc := 394) (v := 0) B d_Book_sign_394 (by decide) ?_
    exact mv_iret (pc := 395) B hr rfl d_Book_sign_395 (Nat.le_refl _) (Nat.le_refl _) ⟨_, rfl, rfl, by first | exact Or.inl rfl | exact Or.inr ⟨rfl, by omega, by omega⟩⟩
  refine ⟨fun h1 => ?_, fun h1n114 => ?_⟩
  · skip
    refine mv_iconst (pc := 394) (v := 0) B d_Book_sign_394 (by decide) ?_
    exact mv_iret (pc := 395) B hr rfl d_Book_sign_395 (Nat.le_refl _) (Nat.le_refl _) ⟨_, rfl, rfl, by first | exact Or.inl rfl | exact Or.inr ⟨rfl, by omega, by omega⟩⟩
  refine ⟨fun h1 => ?_, fun h1n115 => ?_⟩
  · skip
    refine mv_iconst (pc := 394) (v := 0) B d_Book_sign_394 (by decide) ?_
    exact mv_iret (pc := 395) B hr rfl d_Book_sign_395 (Nat.le_refl _) (Nat.le_refl _) ⟨_, rfl, rfl, by first | exact Or.inl rfl | exact Or.inr ⟨rfl, by omega, by omega⟩⟩
  refine ⟨fun h1 => ?_, fun h1n116 => ?_⟩
  · skip
    refine mv_iconst (pc := 394) (v := 0) B d_Book_sign_394 (by decide) ?_
    exact mv_iret (pc := 395) B hr rfl d_Book_sign_395 (Nat.le_refl _) (Nat.le_refl _) ⟨_, rfl, rfl, by first | exact Or.inl rfl | exact Or.inr ⟨rfl, by omega, by omega⟩⟩
  refine ⟨fun h1 => ?_, fun h1n117 => ?_⟩
  · skip
    refine mv_iconst (pc := 394) (v := 0) B d_Book_sign_394 (by decide) ?_
    exact mv_iret (pc := 395) B hr rfl d_Book_sign_395 (Nat.le_refl _) (Nat.le_refl _) ⟨_, rfl, rfl, by first | exact Or.inl rfl | exact Or.inr ⟨rfl, by omega, by omega⟩⟩
  refine ⟨fun h1 => ?_, fun h1n118 => ?_⟩
  · skip
    refine mv_iconst (pc := 394) (v := 0) B d_Book_sign_394 (by decide) ?_
    exact mv_iret (pc := 395) B hr rfl d_Book_sign_395 (Nat.le_refl _) (Nat.le_refl _) ⟨_, rfl, rfl, by first | exact Or.inl rfl | exact Or.inr ⟨rfl, by omega, by omega⟩⟩
  refine ⟨fun h1 => ?_, fun h1n119 => ?_⟩
  · skip
    refine mv_iconst (pc := 394) (v := 0) B d_Book_sign_394 (by decide) ?_
    exact mv_iret (pc := 395) B hr rfl d_Book_sign_395 (Nat.le_refl _) (Nat.le_refl _) ⟨_, rfl, rfl, by first | exact Or.inl rfl | exact Or.inr ⟨rfl, by omega, by omega⟩⟩
  refine ⟨fun h1 => ?_, fun h1n120 => ?_⟩
  · skip
    refine mv_iconst (pc := 394) (v := 0) B d_Book_sign_394 (by decide) ?_
    exact mv_iret (pc := 395) B hr rfl d_Book_sign_395 (Nat.le_refl _) (Nat.le_refl _) ⟨_, rfl, rfl, by first | exact Or.inl rfl | exact Or.inr ⟨rfl, by omega, by omega⟩⟩
  refine ⟨fun h1 => ?_, fun h1n121 => ?_⟩
  · skip
    refine mv_iconst (pc := 394) (v := 0) B d_Book_sign_394 (by decide) ?_
    exact mv_iret (pc := 395) B hr rfl d_Book_sign_395 (Nat.le_refl _) (Nat.le_refl _) ⟨_, rfl, rfl, by first | exact Or.inl rfl | exact Or.inr ⟨rfl, by omega, by omega⟩⟩
  refine ⟨fun h1 => ?_, fun h1n122 => ?_⟩
  · skip
    refine mv_iconst (pc := 394) (v := 0) B d_Book_sign_394 (by decide) ?_
    exact mv_iret (pc := 395) B hr rfl d_Book_sign_395 (Nat.le_refl _) (Nat.le_refl _) ⟨_, rfl, rfl, by first | exact Or.inl rfl | exact Or.inr ⟨rfl, by omega, by omega⟩⟩
  refine ⟨fun h1 => ?_, fun h1n123 => ?_⟩
  · skip
    refine mv_iconst (pc := 392) (v := 1) B d_Book_sign_392 (by decide) ?_
    exact mv_iret (pc := 393) B hr rfl d_Book_sign_393 (Nat.le_refl _) (Nat.le_refl _) ⟨_, rfl, rfl, by first | exact Or.inl rfl | exact Or.inr ⟨rfl, by omega, by omega⟩⟩
  refine ⟨fun h1 => ?_, fun h1n124 => ?_⟩
  · skip
    refine mv_iconst (pc := 392) (v := 1) B d_Book_sign_392 (by decide) ?_
    exact mv_iret (pc := 393) B hr rfl d_Book_sign_393 (Nat.le_refl _) (Nat.le_refl _) ⟨_, rfl, rfl, by first | exact Or.inl rfl | exact Or.inr ⟨rfl, by omega, by omega⟩⟩
  refine ⟨fun h1 => ?_, fun h1n125 => ?_⟩
  · skip
    refine mv_iconst (pc := 392) (v := 1) B d_Book_sign_392 (by decide) ?_
    exact mv_iret (pc := 393) B hr rfl d_Book_sign_393 (Nat.le_refl _) (Nat.le_refl _) ⟨_, rfl, rfl, by first | exact Or.inl rfl | exact Or.inr ⟨rfl, by omega, by omega⟩⟩
  refine ⟨fun h1 => ?_, fun h1n126 => ?_⟩
  · skip
    refine mv_iconst (pc := 392) (v := 1) B d_Book_sign_392 (by decide) ?_
    exact mv_iret (pc := 393) B hr rfl d_Book_sign_393 (Nat.le_refl _) (Nat.le_refl _) ⟨_, rfl, rfl, by first | exact Or.inl rfl | exact Or.inr ⟨rfl, by omega, by omega⟩⟩
  show mv_V _ _ _ _ _ _ _ _ _ _ _ _ _ _ _ _ 394 _ _
  refine mv_iconst (pc := 394) (v := 0) B d_Book_sign_394 (by decide) ?_
  exact mv_iret (pc := 395) B hr rfl d_Book_sign_395 (Nat.le_refl _) (Nat.le_refl _) ⟨_, rfl, rfl, by first | exact Or.inl rfl | exact Or.inr ⟨rfl, by omega, by omega⟩⟩
def y_Book_pair : MethodName := ⟨"MachineLoomModel$Book", "pair", "(II)I"⟩
abbrev b_Book_pair : ByteArray := prog_15_method_11_code
theorem kc_Book_pair : Cond.code y_Book_pair b_Book_pair 3 (Option.some Jvm.ClassFile.FieldType.int) ∈ ma := ma_of (tb_9 _ (List.mem_of_getElem? (i := 230) rfl)) rfl
theorem d_Book_pair_0 : decode b_Book_pair 0 = .ok (.iload_n 1, 1) := by decide +kernel
theorem d_Book_pair_1 : decode b_Book_pair 1 = .ok (.bipush 61, 2) := by decide +kernel
theorem d_Book_pair_3 : decode b_Book_pair 3 = .ok (.if_icmp .ne (13), 3) := by decide +kernel
theorem d_Book_pair_6 : decode b_Book_pair 6 = .ok (.iload_n 2, 1) := by decide +kernel
theorem d_Book_pair_7 : decode b_Book_pair 7 = .ok (.bipush 61, 2) := by decide +kernel
theorem d_Book_pair_9 : decode b_Book_pair 9 = .ok (.if_icmp .ne (7), 3) := by decide +kernel
theorem d_Book_pair_12 : decode b_Book_pair 12 = .ok (.sipush 256, 3) := by decide +kernel
theorem d_Book_pair_15 : decode b_Book_pair 15 = .ok (.ireturn, 1) := by decide +kernel
theorem d_Book_pair_16 : decode b_Book_pair 16 = .ok (.iload_n 1, 1) := by decide +kernel
theorem d_Book_pair_17 : decode b_Book_pair 17 = .ok (.bipush 33, 2) := by decide +kernel
theorem d_Book_pair_19 : decode b_Book_pair 19 = .ok (.if_icmp .ne (13), 3) := by decide +kernel
theorem d_Book_pair_22 : decode b_Book_pair 22 = .ok (.iload_n 2, 1) := by decide +kernel
theorem d_Book_pair_23 : decode b_Book_pair 23 = .ok (.bipush 61, 2) := by decide +kernel
theorem d_Book_pair_25 : decode b_Book_pair 25 = .ok (.if_icmp .ne (7), 3) := by decide +kernel
theorem d_Book_pair_28 : decode b_Book_pair 28 = .ok (.sipush 257, 3) := by decide +kernel
theorem d_Book_pair_31 : decode b_Book_pair 31 = .ok (.ireturn, 1) := by decide +kernel
theorem d_Book_pair_32 : decode b_Book_pair 32 = .ok (.iload_n 1, 1) := by decide +kernel
theorem d_Book_pair_33 : decode b_Book_pair 33 = .ok (.bipush 60, 2) := by decide +kernel
theorem d_Book_pair_35 : decode b_Book_pair 35 = .ok (.if_icmp .ne (13), 3) := by decide +kernel
theorem d_Book_pair_38 : decode b_Book_pair 38 = .ok (.iload_n 2, 1) := by decide +kernel
theorem d_Book_pair_39 : decode b_Book_pair 39 = .ok (.bipush 61, 2) := by decide +kernel
theorem d_Book_pair_41 : decode b_Book_pair 41 = .ok (.if_icmp .ne (7), 3) := by decide +kernel
theorem d_Book_pair_44 : decode b_Book_pair 44 = .ok (.sipush 258, 3) := by decide +kernel
theorem d_Book_pair_47 : decode b_Book_pair 47 = .ok (.ireturn, 1) := by decide +kernel
theorem d_Book_pair_48 : decode b_Book_pair 48 = .ok (.iload_n 1, 1) := by decide +kernel
theorem d_Book_pair_49 : decode b_Book_pair 49 = .ok (.bipush 60, 2) := by decide +kernel
theorem d_Book_pair_51 : decode b_Book_pair 51 = .ok (.if_icmp .ne (13), 3) := by decide +kernel
theorem d_Book_pair_54 : decode b_Book_pair 54 = .ok (.iload_n 2, 1) := by decide +kernel
theorem d_Book_pair_55 : decode b_Book_pair 55 = .ok (.bipush 60, 2) := by decide +kernel
theorem d_Book_pair_57 : decode b_Book_pair 57 = .ok (.if_icmp .ne (7), 3) := by decide +kernel
theorem d_Book_pair_60 : decode b_Book_pair 60 = .ok (.sipush 259, 3) := by decide +kernel
theorem d_Book_pair_63 : decode b_Book_pair 63 = .ok (.ireturn, 1) := by decide +kernel
theorem d_Book_pair_64 : decode b_Book_pair 64 = .ok (.iload_n 1, 1) := by decide +kernel
theorem d_Book_pair_65 : decode b_Book_pair 65 = .ok (.bipush 62, 2) := by decide +kernel
theorem d_Book_pair_67 : decode b_Book_pair 67 = .ok (.if_icmp .ne (15), 3) := by decide +kernel
theorem d_Book_pair_70 : decode b_Book_pair 70 = .ok (.iload_n 2, 1) := by decide +kernel
theorem d_Book_pair_71 : decode b_Book_pair 71 = .ok (.bipush 62, 2) := by decide +kernel
theorem d_Book_pair_73 : decode b_Book_pair 73 = .ok (.if_icmp .ne (9), 3) := by decide +kernel
theorem d_Book_pair_76 : decode b_Book_pair 76 = .ok (.sipush 260, 3) := by decide +kernel
theorem d_Book_pair_79 : decode b_Book_pair 79 = .ok (.goto (4), 3) := by decide +kernel
theorem d_Book_pair_82 : decode b_Book_pair 82 = .ok (.iconst 0, 1) := by decide +kernel
theorem d_Book_pair_83 : decode b_Book_pair 83 = .ok (.ireturn, 1) := by decide +kernel
set_option maxHeartbeats 4000000 in
set_option maxRecDepth 100000 in
theorem c_Book_pair_x (l : Launch) {dA : FieldType → ClassId} {D : va_G} {al : Nat → Nat} {ext : mv_Sh} {sk sv : Nat → Nat} (hi : mv_inj (mg dA D al ext)) (σ : mv_H) (x y : Int32) : mv_C l y_Book_pair (Cond.code y_Book_pair b_Book_pair 3 (Option.some Jvm.ClassFile.FieldType.int) :: ma) ({ frames := 0, cells := 0, slots := 0, locals := 0 }) (mg dA D al ext) (mK sk sv) [.ref (al 74), .int x, .int y] σ (mv_Ri (fun v σ1 => σ1 = σ ∧ (v = 0 ∨ (256 ≤ v.toInt ∧ v.toInt ≤ 260 ∧ 33 ≤ x.toInt ∧ 60 ≤ y.toInt)))) := by
  refine mv_C.ofV (cc := b_Book_pair) (nL := 3) (ret := (Option.some Jvm.ClassFile.FieldType.int)) (by decide +kernel) rfl hi (Nat.le_of_ble_eq_true rfl) ?_
  intro p e s m below meth c B hNs hr hnm hno
  refine mv_iload_n (pc := 0) B d_Book_pair_0 rfl 1 rfl ?_
  refine mv_bipush (pc := 1) (v := 61) B d_Book_pair_1 (by decide) ?_
  refine mv_icmp_ne (pc := 3) (tgt := 16) B d_Book_pair_3 rfl (fun h3 => ?_) (fun h3 => ?_)
  · skip
    refine mv_iload_n (pc := 16) B d_Book_pair_16 rfl 1 rfl ?_
    refine mv_bipush (pc := 17) (v := 33) B d_Book_pair_17 (by decide) ?_
    refine mv_icmp_ne (pc := 19) (tgt := 32) B d_Book_pair_19 rfl (fun h19 => ?_) (fun h19 => ?_)
    · skip
      refine mv_iload_n (pc := 32) B d_Book_pair_32 rfl 1 rfl ?_
      refine mv_bipush (pc := 33) (v := 60) B d_Book_pair_33 (by decide) ?_
      refine mv_icmp_ne (pc := 35) (tgt := 48) B d_Book_pair_35 rfl (fun h35 => ?_) (fun h35 => ?_)
      · skip
        refine mv_iload_n (pc := 48) B d_Book_pair_48 rfl 1 rfl ?_
        refine mv_bipush (pc := 49) (v := 60) B d_Book_pair_49 (by decide) ?_
        refine mv_icmp_ne (pc := 51) (tgt := 64) B d_Book_pair_51 rfl (fun h51 => ?_) (fun h51 => ?_)
        · skip
          refine mv_iload_n (pc := 64) B d_Book_pair_64 rfl 1 rfl ?_
          refine mv_bipush (pc := 65) (v := 62) B d_Book_pair_65 (by decide) ?_
          refine mv_icmp_ne (pc := 67) (tgt := 82) B d_Book_pair_67 rfl (fun h67 => ?_) (fun h67 => ?_)
          · skip
            refine mv_iconst (pc := 82) (v := 0) B d_Book_pair_82 (by decide) ?_
            exact mv_iret (pc := 83) B hr rfl d_Book_pair_83 (Nat.le_refl _) (Nat.le_refl _) ⟨_, rfl, rfl, by first | exact Or.inl rfl | exact Or.inr ⟨by decide, by decide, by subst_vars; decide, by subst_vars; decide⟩⟩
          · skip
            refine mv_iload_n (pc := 70) B d_Book_pair_70 rfl 2 rfl ?_
            refine mv_bipush (pc := 71) (v := 62) B d_Book_pair_71 (by decide) ?_
            refine mv_icmp_ne (pc := 73) (tgt := 82) B d_Book_pair_73 rfl (fun h73 => ?_) (fun h73 => ?_)
            · skip
              refine mv_iconst (pc := 82) (v := 0) B d_Book_pair_82 (by decide) ?_
              exact mv_iret (pc := 83) B hr rfl d_Book_pair_83 (Nat.le_refl _) (Nat.le_refl _) ⟨_, rfl, rfl, by first | exact Or.inl rfl | exact Or.inr ⟨by decide, by decide, by subst_vars; decide, by subst_vars; decide⟩⟩
            · skip
              refine mv_sipush (pc := 76) (v := 260) B d_Book_pair_76 (by decide) ?_
              refine mv_goto (pc := 79) (tgt := 83) B d_Book_pair_79 rfl ?_
              exact mv_iret (pc := 83) B hr rfl d_Book_pair_83 (Nat.le_refl _) (Nat.le_refl _) ⟨_, rfl, rfl, by first | exact Or.inl rfl | exact Or.inr ⟨by decide, by decide, by subst_vars; decide, by subst_vars; decide⟩⟩
        · skip
          refine mv_iload_n (pc := 54) B d_Book_pair_54 rfl 2 rfl ?_
          refine mv_bipush (pc := 55) (v := 60) B d_Book_pair_55 (by decide) ?_
          refine mv_icmp_ne (pc := 57) (tgt := 64) B d_Book_pair_57 rfl (fun h57 => ?_) (fun h57 => ?_)
          · skip
            refine mv_iload_n (pc := 64) B d_Book_pair_64 rfl 1 rfl ?_
            refine mv_bipush (pc := 65) (v := 62) B d_Book_pair_65 (by decide) ?_
            refine mv_icmp_ne (pc := 67) (tgt := 82) B d_Book_pair_67 rfl (fun h67 => ?_) (fun h67 => ?_)
            · skip
              refine mv_iconst (pc := 82) (v := 0) B d_Book_pair_82 (by decide) ?_
              exact mv_iret (pc := 83) B hr rfl d_Book_pair_83 (Nat.le_refl _) (Nat.le_refl _) ⟨_, rfl, rfl, by first | exact Or.inl rfl | exact Or.inr ⟨by decide, by decide, by subst_vars; decide, by subst_vars; decide⟩⟩
            · skip
              refine mv_iload_n (pc := 70) B d_Book_pair_70 rfl 2 rfl ?_
              refine mv_bipush (pc := 71) (v := 62) B d_Book_pair_71 (by decide) ?_
              refine mv_icmp_ne (pc := 73) (tgt := 82) B d_Book_pair_73 rfl (fun h73 => ?_) (fun h73 => ?_)
              · skip
                refine mv_iconst (pc := 82) (v := 0) B d_Book_pair_82 (by decide) ?_
                exact mv_iret (pc := 83) B hr rfl d_Book_pair_83 (Nat.le_refl _) (Nat.le_refl _) ⟨_, rfl, rfl, by first | exact Or.inl rfl | exact Or.inr ⟨by decide, by decide, by subst_vars; decide, by subst_vars; decide⟩⟩
              · skip
                refine mv_sipush (pc := 76) (v := 260) B d_Book_pair_76 (by decide) ?_
                refine mv_goto (pc := 79) (tgt := 83) B d_Book_pair_79 rfl ?_
                exact mv_iret (pc := 83) B hr rfl d_Book_pair_83 (Nat.le_refl _) (Nat.le_refl _) ⟨_, rfl, rfl, by first | exact Or.inl rfl | exact Or.inr ⟨by decide, by decide, by subst_vars; decide, by subst_vars; decide⟩⟩
          · skip
            refine mv_sipush (pc := 60) (v := 259) B d_Book_pair_60 (by decide) ?_
            exact mv_iret (pc := 63) B hr rfl d_Book_pair_63 (Nat.le_refl _) (Nat.le_refl _) ⟨_, rfl, rfl, by first | exact Or.inl rfl | exact Or.inr ⟨by decide, by decide, by subst_vars; decide, by subst_vars; decide⟩⟩
      · skip
        refine mv_iload_n (pc := 38) B d_Book_pair_38 rfl 2 rfl ?_
        refine mv_bipush (pc := 39) (v := 61) B d_Book_pair_39 (by decide) ?_
        refine mv_icmp_ne (pc := 41) (tgt := 48) B d_Book_pair_41 rfl (fun h41 => ?_) (fun h41 => ?_)
        · skip
          refine mv_iload_n (pc := 48) B d_Book_pair_48 rfl 1 rfl ?_
          refine mv_bipush (pc := 49) (v := 60) B d_Book_pair_49 (by decide) ?_
          refine mv_icmp_ne (pc := 51) (tgt := 64) B d_Book_pair_51 rfl (fun h51 => ?_) (fun h51 => ?_)
          · skip
            refine mv_iload_n (pc := 64) B d_Book_pair_64 rfl 1 rfl ?_
            refine mv_bipush (pc := 65) (v := 62) B d_Book_pair_65 (by decide) ?_
            refine mv_icmp_ne (pc := 67) (tgt := 82) B d_Book_pair_67 rfl (fun h67 => ?_) (fun h67 => ?_)
            · skip
              refine mv_iconst (pc := 82) (v := 0) B d_Book_pair_82 (by decide) ?_
              exact mv_iret (pc := 83) B hr rfl d_Book_pair_83 (Nat.le_refl _) (Nat.le_refl _) ⟨_, rfl, rfl, by first | exact Or.inl rfl | exact Or.inr ⟨by decide, by decide, by subst_vars; decide, by subst_vars; decide⟩⟩
            · skip
              refine mv_iload_n (pc := 70) B d_Book_pair_70 rfl 2 rfl ?_
              refine mv_bipush (pc := 71) (v := 62) B d_Book_pair_71 (by decide) ?_
              refine mv_icmp_ne (pc := 73) (tgt := 82) B d_Book_pair_73 rfl (fun h73 => ?_) (fun h73 => ?_)
              · skip
                refine mv_iconst (pc := 82) (v := 0) B d_Book_pair_82 (by decide) ?_
                exact mv_iret (pc := 83) B hr rfl d_Book_pair_83 (Nat.le_refl _) (Nat.le_refl _) ⟨_, rfl, rfl, by first | exact Or.inl rfl | exact Or.inr ⟨by decide, by decide, by subst_vars; decide, by subst_vars; decide⟩⟩
              · skip
                refine mv_sipush (pc := 76) (v := 260) B d_Book_pair_76 (by decide) ?_
                refine mv_goto (pc := 79) (tgt := 83) B d_Book_pair_79 rfl ?_
                exact mv_iret (pc := 83) B hr rfl d_Book_pair_83 (Nat.le_refl _) (Nat.le_refl _) ⟨_, rfl, rfl, by first | exact Or.inl rfl | exact Or.inr ⟨by decide, by decide, by subst_vars; decide, by subst_vars; decide⟩⟩
          · skip
            refine mv_iload_n (pc := 54) B d_Book_pair_54 rfl 2 rfl ?_
            refine mv_bipush (pc := 55) (v := 60) B d_Book_pair_55 (by decide) ?_
            refine mv_icmp_ne (pc := 57) (tgt := 64) B d_Book_pair_57 rfl (fun h57 => ?_) (fun h57 => ?_)
            · skip
              refine mv_iload_n (pc := 64) B d_Book_pair_64 rfl 1 rfl ?_
              refine mv_bipush (pc := 65) (v := 62) B d_Book_pair_65 (by decide) ?_
              refine mv_icmp_ne (pc := 67) (tgt := 82) B d_Book_pair_67 rfl (fun h67 => ?_) (fun h67 => ?_)
              · skip
                refine mv_iconst (pc := 82) (v := 0) B d_Book_pair_82 (by decide) ?_
                exact mv_iret (pc := 83) B hr rfl d_Book_pair_83 (Nat.le_refl _) (Nat.le_refl _) ⟨_, rfl, rfl, by first | exact Or.inl rfl | exact Or.inr ⟨by decide, by decide, by subst_vars; decide, by subst_vars; decide⟩⟩
              · skip
                refine mv_iload_n (pc := 70) B d_Book_pair_70 rfl 2 rfl ?_
                refine mv_bipush (pc := 71) (v := 62) B d_Book_pair_71 (by decide) ?_
                refine mv_icmp_ne (pc := 73) (tgt := 82) B d_Book_pair_73 rfl (fun h73 => ?_) (fun h73 => ?_)
                · skip
                  refine mv_iconst (pc := 82) (v := 0) B d_Book_pair_82 (by decide) ?_
                  exact mv_iret (pc := 83) B hr rfl d_Book_pair_83 (Nat.le_refl _) (Nat.le_refl _) ⟨_, rfl, rfl, by first | exact Or.inl rfl | exact Or.inr ⟨by decide, by decide, by subst_vars; decide, by subst_vars; decide⟩⟩
                · skip
                  refine mv_sipush (pc := 76) (v := 260) B d_Book_pair_76 (by decide) ?_
                  refine mv_goto (pc := 79) (tgt := 83) B d_Book_pair_79 rfl ?_
                  exact mv_iret (pc := 83) B hr rfl d_Book_pair_83 (Nat.le_refl _) (Nat.le_refl _) ⟨_, rfl, rfl, by first | exact Or.inl rfl | exact Or.inr ⟨by decide, by decide, by subst_vars; decide, by subst_vars; decide⟩⟩
            · skip
              refine mv_sipush (pc := 60) (v := 259) B d_Book_pair_60 (by decide) ?_
              exact mv_iret (pc := 63) B hr rfl d_Book_pair_63 (Nat.le_refl _) (Nat.le_refl _) ⟨_, rfl, rfl, by first | exact Or.inl rfl | exact Or.inr ⟨by decide, by decide, by subst_vars; decide, by subst_vars; decide⟩⟩
        · skip
          refine mv_sipush (pc := 44) (v := 258) B d_Book_pair_44 (by decide) ?_
          exact mv_iret (pc := 47) B hr rfl d_Book_pair_47 (Nat.le_refl _) (Nat.le_refl _) ⟨_, rfl, rfl, by first | exact Or.inl rfl | exact Or.inr ⟨by decide, by decide, by subst_vars; decide, by subst_vars; decide⟩⟩
    · skip
      refine mv_iload_n (pc := 22) B d_Book_pair_22 rfl 2 rfl ?_
      refine mv_bipush (pc := 23) (v := 61) B d_Book_pair_23 (by decide) ?_
      refine mv_icmp_ne (pc := 25) (tgt := 32) B d_Book_pair_25 rfl (fun h25 => ?_) (fun h25 => ?_)
      · skip
        refine mv_iload_n (pc := 32) B d_Book_pair_32 rfl 1 rfl ?_
        refine mv_bipush (pc := 33) (v := 60) B d_Book_pair_33 (by decide) ?_
        refine mv_icmp_ne (pc := 35) (tgt := 48) B d_Book_pair_35 rfl (fun h35 => ?_) (fun h35 => ?_)
        · skip
          refine mv_iload_n (pc := 48) B d_Book_pair_48 rfl 1 rfl ?_
          refine mv_bipush (pc := 49) (v := 60) B d_Book_pair_49 (by decide) ?_
          refine mv_icmp_ne (pc := 51) (tgt := 64) B d_Book_pair_51 rfl (fun h51 => ?_) (fun h51 => ?_)
          · skip
            refine mv_iload_n (pc := 64) B d_Book_pair_64 rfl 1 rfl ?_
            refine mv_bipush (pc := 65) (v := 62) B d_Book_pair_65 (by decide) ?_
            refine mv_icmp_ne (pc := 67) (tgt := 82) B d_Book_pair_67 rfl (fun h67 => ?_) (fun h67 => ?_)
            · skip
              refine mv_iconst (pc := 82) (v := 0) B d_Book_pair_82 (by decide) ?_
              exact mv_iret (pc := 83) B hr rfl d_Book_pair_83 (Nat.le_refl _) (Nat.le_refl _) ⟨_, rfl, rfl, by first | exact Or.inl rfl | exact Or.inr ⟨by decide, by decide, by subst_vars; decide, by subst_vars; decide⟩⟩
            · skip
              refine mv_iload_n (pc := 70) B d_Book_pair_70 rfl 2 rfl ?_
              refine mv_bipush (pc := 71) (v := 62) B d_Book_pair_71 (by decide) ?_
              refine mv_icmp_ne (pc := 73) (tgt := 82) B d_Book_pair_73 rfl (fun h73 => ?_) (fun h73 => ?_)
              · skip
                refine mv_iconst (pc := 82) (v := 0) B d_Book_pair_82 (by decide) ?_
                exact mv_iret (pc := 83) B hr rfl d_Book_pair_83 (Nat.le_refl _) (Nat.le_refl _) ⟨_, rfl, rfl, by first | exact Or.inl rfl | exact Or.inr ⟨by decide, by decide, by subst_vars; decide, by subst_vars; decide⟩⟩
              · skip
                refine mv_sipush (pc := 76) (v := 260) B d_Book_pair_76 (by decide) ?_
                refine mv_goto (pc := 79) (tgt := 83) B d_Book_pair_79 rfl ?_
                exact mv_iret (pc := 83) B hr rfl d_Book_pair_83 (Nat.le_refl _) (Nat.le_refl _) ⟨_, rfl, rfl, by first | exact Or.inl rfl | exact Or.inr ⟨by decide, by decide, by subst_vars; decide, by subst_vars; decide⟩⟩
          · skip
            refine mv_iload_n (pc := 54) B d_Book_pair_54 rfl 2 rfl ?_
            refine mv_bipush (pc := 55) (v := 60) B d_Book_pair_55 (by decide) ?_
            refine mv_icmp_ne (pc := 57) (tgt := 64) B d_Book_pair_57 rfl (fun h57 => ?_) (fun h57 => ?_)
            · skip
              refine mv_iload_n (pc := 64) B d_Book_pair_64 rfl 1 rfl ?_
              refine mv_bipush (pc := 65) (v := 62) B d_Book_pair_65 (by decide) ?_
              refine mv_icmp_ne (pc := 67) (tgt := 82) B d_Book_pair_67 rfl (fun h67 => ?_) (fun h67 => ?_)
              · skip
                refine mv_iconst (pc := 82) (v := 0) B d_Book_pair_82 (by decide) ?_
                exact mv_iret (pc := 83) B hr rfl d_Book_pair_83 (Nat.le_refl _) (Nat.le_refl _) ⟨_, rfl, rfl, by first | exact Or.inl rfl | exact Or.inr ⟨by decide, by decide, by subst_vars; decide, by subst_vars; decide⟩⟩
              · skip
                refine mv_iload_n (pc := 70) B d_Book_pair_70 rfl 2 rfl ?_
                refine mv_bipush (pc := 71) (v := 62) B d_Book_pair_71 (by decide) ?_
                refine mv_icmp_ne (pc := 73) (tgt := 82) B d_Book_pair_73 rfl (fun h73 => ?_) (fun h73 => ?_)
                · skip
                  refine mv_iconst (pc := 82) (v := 0) B d_Book_pair_82 (by decide) ?_
                  exact mv_iret (pc := 83) B hr rfl d_Book_pair_83 (Nat.le_refl _) (Nat.le_refl _) ⟨_, rfl, rfl, by first | exact Or.inl rfl | exact Or.inr ⟨by decide, by decide, by subst_vars; decide, by subst_vars; decide⟩⟩
                · skip
                  refine mv_sipush (pc := 76) (v := 260) B d_Book_pair_76 (by decide) ?_
                  refine mv_goto (pc := 79) (tgt := 83) B d_Book_pair_79 rfl ?_
                  exact mv_iret (pc := 83) B hr rfl d_Book_pair_83 (Nat.le_refl _) (Nat.le_refl _) ⟨_, rfl, rfl, by first | exact Or.inl rfl | exact Or.inr ⟨by decide, by decide, by subst_vars; decide, by subst_vars; decide⟩⟩
            · skip
              refine mv_sipush (pc := 60) (v := 259) B d_Book_pair_60 (by decide) ?_
              exact mv_iret (pc := 63) B hr rfl d_Book_pair_63 (Nat.le_refl _) (Nat.le_refl _) ⟨_, rfl, rfl, by first | exact Or.inl rfl | exact Or.inr ⟨by decide, by decide, by subst_vars; decide, by subst_vars; decide⟩⟩
        · skip
          refine mv_iload_n (pc := 38) B d_Book_pair_38 rfl 2 rfl ?_
          refine mv_bipush (pc := 39) (v := 61) B d_Book_pair_39 (by decide) ?_
          refine mv_icmp_ne (pc := 41) (tgt := 48) B d_Book_pair_41 rfl (fun h41 => ?_) (fun h41 => ?_)
          · skip
            refine mv_iload_n (pc := 48) B d_Book_pair_48 rfl 1 rfl ?_
            refine mv_bipush (pc := 49) (v := 60) B d_Book_pair_49 (by decide) ?_
            refine mv_icmp_ne (pc := 51) (tgt := 64) B d_Book_pair_51 rfl (fun h51 => ?_) (fun h51 => ?_)
            · skip
              refine mv_iload_n (pc := 64) B d_Book_pair_64 rfl 1 rfl ?_
              refine mv_bipush (pc := 65) (v := 62) B d_Book_pair_65 (by decide) ?_
              refine mv_icmp_ne (pc := 67) (tgt := 82) B d_Book_pair_67 rfl (fun h67 => ?_) (fun h67 => ?_)
              · skip
                refine mv_iconst (pc := 82) (v := 0) B d_Book_pair_82 (by decide) ?_
                exact mv_iret (pc := 83) B hr rfl d_Book_pair_83 (Nat.le_refl _) (Nat.le_refl _) ⟨_, rfl, rfl, by first | exact Or.inl rfl | exact Or.inr ⟨by decide, by decide, by subst_vars; decide, by subst_vars; decide⟩⟩
              · skip
                refine mv_iload_n (pc := 70) B d_Book_pair_70 rfl 2 rfl ?_
                refine mv_bipush (pc := 71) (v := 62) B d_Book_pair_71 (by decide) ?_
                refine mv_icmp_ne (pc := 73) (tgt := 82) B d_Book_pair_73 rfl (fun h73 => ?_) (fun h73 => ?_)
                · skip
                  refine mv_iconst (pc := 82) (v := 0) B d_Book_pair_82 (by decide) ?_
                  exact mv_iret (pc := 83) B hr rfl d_Book_pair_83 (Nat.le_refl _) (Nat.le_refl _) ⟨_, rfl, rfl, by first | exact Or.inl rfl | exact Or.inr ⟨by decide, by decide, by subst_vars; decide, by subst_vars; decide⟩⟩
                · skip
                  refine mv_sipush (pc := 76) (v := 260) B d_Book_pair_76 (by decide) ?_
                  refine mv_goto (pc := 79) (tgt := 83) B d_Book_pair_79 rfl ?_
                  exact mv_iret (pc := 83) B hr rfl d_Book_pair_83 (Nat.le_refl _) (Nat.le_refl _) ⟨_, rfl, rfl, by first | exact Or.inl rfl | exact Or.inr ⟨by decide, by decide, by subst_vars; decide, by subst_vars; decide⟩⟩
            · skip
              refine mv_iload_n (pc := 54) B d_Book_pair_54 rfl 2 rfl ?_
              refine mv_bipush (pc := 55) (v := 60) B d_Book_pair_55 (by decide) ?_
              refine mv_icmp_ne (pc := 57) (tgt := 64) B d_Book_pair_57 rfl (fun h57 => ?_) (fun h57 => ?_)
              · skip
                refine mv_iload_n (pc := 64) B d_Book_pair_64 rfl 1 rfl ?_
                refine mv_bipush (pc := 65) (v := 62) B d_Book_pair_65 (by decide) ?_
                refine mv_icmp_ne (pc := 67) (tgt := 82) B d_Book_pair_67 rfl (fun h67 => ?_) (fun h67 => ?_)
                · skip
                  refine mv_iconst (pc := 82) (v := 0) B d_Book_pair_82 (by decide) ?_
                  exact mv_iret (pc := 83) B hr rfl d_Book_pair_83 (Nat.le_refl _) (Nat.le_refl _) ⟨_, rfl, rfl, by first | exact Or.inl rfl | exact Or.inr ⟨by decide, by decide, by subst_vars; decide, by subst_vars; decide⟩⟩
                · skip
                  refine mv_iload_n (pc := 70) B d_Book_pair_70 rfl 2 rfl ?_
                  refine mv_bipush (pc := 71) (v := 62) B d_Book_pair_71 (by decide) ?_
                  refine mv_icmp_ne (pc := 73) (tgt := 82) B d_Book_pair_73 rfl (fun h73 => ?_) (fun h73 => ?_)
                  · skip
                    refine mv_iconst (pc := 82) (v := 0) B d_Book_pair_82 (by decide) ?_
                    exact mv_iret (pc := 83) B hr rfl d_Book_pair_83 (Nat.le_refl _) (Nat.le_refl _) ⟨_, rfl, rfl, by first | exact Or.inl rfl | exact Or.inr ⟨by decide, by decide, by subst_vars; decide, by subst_vars; decide⟩⟩
                  · skip
                    refine mv_sipush (pc := 76) (v := 260) B d_Book_pair_76 (by decide) ?_
                    refine mv_goto (pc := 79) (tgt := 83) B d_Book_pair_79 rfl ?_
                    exact mv_iret (pc := 83) B hr rfl d_Book_pair_83 (Nat.le_refl _) (Nat.le_refl _) ⟨_, rfl, rfl, by first | exact Or.inl rfl | exact Or.inr ⟨by decide, by decide, by subst_vars; decide, by subst_vars; decide⟩⟩
              · skip
                refine mv_sipush (pc := 60) (v := 259) B d_Book_pair_60 (by decide) ?_
                exact mv_iret (pc := 63) B hr rfl d_Book_pair_63 (Nat.le_refl _) (Nat.le_refl _) ⟨_, rfl, rfl, by first | exact Or.inl rfl | exact Or.inr ⟨by decide, by decide, by subst_vars; decide, by subst_vars; decide⟩⟩
          · skip
            refine mv_sipush (pc := 44) (v := 258) B d_Book_pair_44 (by decide) ?_
            exact mv_iret (pc := 47) B hr rfl d_Book_pair_47 (Nat.le_refl _) (Nat.le_refl _) ⟨_, rfl, rfl, by first | exact Or.inl rfl | exact Or.inr ⟨by decide, by decide, by subst_vars; decide, by subst_vars; decide⟩⟩
      · skip
        refine mv_sipush (pc := 28) (v := 257) B d_Book_pair_28 (by decide) ?_
        exact mv_iret (pc := 31) B hr rfl d_Book_pair_31 (Nat.le_refl _) (Nat.le_refl _) ⟨_, rfl, rfl, by first | exact Or.inl rfl | exact Or.inr ⟨by decide, by decide, by subst_vars; decide, by subst_vars; decide⟩⟩
  · skip
    refine mv_iload_n (pc := 6) B d_Book_pair_6 rfl 2 rfl ?_
    refine mv_bipush (pc := 7) (v := 61) B d_Book_pair_7 (by decide) ?_
    refine mv_icmp_ne (pc := 9) (tgt := 16) B d_Book_pair_9 rfl (fun h9 => ?_) (fun h9 => ?_)
    · skip
      refine mv_iload_n (pc := 16) B d_Book_pair_16 rfl 1 rfl ?_
      refine mv_bipush (pc := 17) (v := 33) B d_Book_pair_17 (by decide) ?_
      refine mv_icmp_ne (pc := 19) (tgt := 32) B d_Book_pair_19 rfl (fun h19 => ?_) (fun h19 => ?_)
      · skip
        refine mv_iload_n (pc := 32) B d_Book_pair_32 rfl 1 rfl ?_
        refine mv_bipush (pc := 33) (v := 60) B d_Book_pair_33 (by decide) ?_
        refine mv_icmp_ne (pc := 35) (tgt := 48) B d_Book_pair_35 rfl (fun h35 => ?_) (fun h35 => ?_)
        · skip
          refine mv_iload_n (pc := 48) B d_Book_pair_48 rfl 1 rfl ?_
          refine mv_bipush (pc := 49) (v := 60) B d_Book_pair_49 (by decide) ?_
          refine mv_icmp_ne (pc := 51) (tgt := 64) B d_Book_pair_51 rfl (fun h51 => ?_) (fun h51 => ?_)
          · skip
            refine mv_iload_n (pc := 64) B d_Book_pair_64 rfl 1 rfl ?_
            refine mv_bipush (pc := 65) (v := 62) B d_Book_pair_65 (by decide) ?_
            refine mv_icmp_ne (pc := 67) (tgt := 82) B d_Book_pair_67 rfl (fun h67 => ?_) (fun h67 => ?_)
            · skip
              refine mv_iconst (pc := 82) (v := 0) B d_Book_pair_82 (by decide) ?_
              exact mv_iret (pc := 83) B hr rfl d_Book_pair_83 (Nat.le_refl _) (Nat.le_refl _) ⟨_, rfl, rfl, by first | exact Or.inl rfl | exact Or.inr ⟨by decide, by decide, by subst_vars; decide, by subst_vars; decide⟩⟩
            · skip
              refine mv_iload_n (pc := 70) B d_Book_pair_70 rfl 2 rfl ?_
              refine mv_bipush (pc := 71) (v := 62) B d_Book_pair_71 (by decide) ?_
              refine mv_icmp_ne (pc := 73) (tgt := 82) B d_Book_pair_73 rfl (fun h73 => ?_) (fun h73 => ?_)
              · skip
                refine mv_iconst (pc := 82) (v := 0) B d_Book_pair_82 (by decide) ?_
                exact mv_iret (pc := 83) B hr rfl d_Book_pair_83 (Nat.le_refl _) (Nat.le_refl _) ⟨_, rfl, rfl, by first | exact Or.inl rfl | exact Or.inr ⟨by decide, by decide, by subst_vars; decide, by subst_vars; decide⟩⟩
              · skip
                refine mv_sipush (pc := 76) (v := 260) B d_Book_pair_76 (by decide) ?_
                refine mv_goto (pc := 79) (tgt := 83) B d_Book_pair_79 rfl ?_
                exact mv_iret (pc := 83) B hr rfl d_Book_pair_83 (Nat.le_refl _) (Nat.le_refl _) ⟨_, rfl, rfl, by first | exact Or.inl rfl | exact Or.inr ⟨by decide, by decide, by subst_vars; decide, by subst_vars; decide⟩⟩
          · skip
            refine mv_iload_n (pc := 54) B d_Book_pair_54 rfl 2 rfl ?_
            refine mv_bipush (pc := 55) (v := 60) B d_Book_pair_55 (by decide) ?_
            refine mv_icmp_ne (pc := 57) (tgt := 64) B d_Book_pair_57 rfl (fun h57 => ?_) (fun h57 => ?_)
            · skip
              refine mv_iload_n (pc := 64) B d_Book_pair_64 rfl 1 rfl ?_
              refine mv_bipush (pc := 65) (v := 62) B d_Book_pair_65 (by decide) ?_
              refine mv_icmp_ne (pc := 67) (tgt := 82) B d_Book_pair_67 rfl (fun h67 => ?_) (fun h67 => ?_)
              · skip
                refine mv_iconst (pc := 82) (v := 0) B d_Book_pair_82 (by decide) ?_
                exact mv_iret (pc := 83) B hr rfl d_Book_pair_83 (Nat.le_refl _) (Nat.le_refl _) ⟨_, rfl, rfl, by first | exact Or.inl rfl | exact Or.inr ⟨by decide, by decide, by subst_vars; decide, by subst_vars; decide⟩⟩
              · skip
                refine mv_iload_n (pc := 70) B d_Book_pair_70 rfl 2 rfl ?_
                refine mv_bipush (pc := 71) (v := 62) B d_Book_pair_71 (by decide) ?_
                refine mv_icmp_ne (pc := 73) (tgt := 82) B d_Book_pair_73 rfl (fun h73 => ?_) (fun h73 => ?_)
                · skip
                  refine mv_iconst (pc := 82) (v := 0) B d_Book_pair_82 (by decide) ?_
                  exact mv_iret (pc := 83) B hr rfl d_Book_pair_83 (Nat.le_refl _) (Nat.le_refl _) ⟨_, rfl, rfl, by first | exact Or.inl rfl | exact Or.inr ⟨by decide, by decide, by subst_vars; decide, by subst_vars; decide⟩⟩
                · skip
                  refine mv_sipush (pc := 76) (v := 260) B d_Book_pair_76 (by decide) ?_
                  refine mv_goto (pc := 79) (tgt := 83) B d_Book_pair_79 rfl ?_
                  exact mv_iret (pc := 83) B hr rfl d_Book_pair_83 (Nat.le_refl _) (Nat.le_refl _) ⟨_, rfl, rfl, by first | exact Or.inl rfl | exact Or.inr ⟨by decide, by decide, by subst_vars; decide, by subst_vars; decide⟩⟩
            · skip
              refine mv_sipush (pc := 60) (v := 259) B d_Book_pair_60 (by decide) ?_
              exact mv_iret (pc := 63) B hr rfl d_Book_pair_63 (Nat.le_refl _) (Nat.le_refl _) ⟨_, rfl, rfl, by first | exact Or.inl rfl | exact Or.inr ⟨by decide, by decide, by subst_vars; decide, by subst_vars; decide⟩⟩
        · skip
          refine mv_iload_n (pc := 38) B d_Book_pair_38 rfl 2 rfl ?_
          refine mv_bipush (pc := 39) (v := 61) B d_Book_pair_39 (by decide) ?_
          refine mv_icmp_ne (pc := 41) (tgt := 48) B d_Book_pair_41 rfl (fun h41 => ?_) (fun h41 => ?_)
          · skip
            refine mv_iload_n (pc := 48) B d_Book_pair_48 rfl 1 rfl ?_
            refine mv_bipush (pc := 49) (v := 60) B d_Book_pair_49 (by decide) ?_
            refine mv_icmp_ne (pc := 51) (tgt := 64) B d_Book_pair_51 rfl (fun h51 => ?_) (fun h51 => ?_)
            · skip
              refine mv_iload_n (pc := 64) B d_Book_pair_64 rfl 1 rfl ?_
              refine mv_bipush (pc := 65) (v := 62) B d_Book_pair_65 (by decide) ?_
              refine mv_icmp_ne (pc := 67) (tgt := 82) B d_Book_pair_67 rfl (fun h67 => ?_) (fun h67 => ?_)
              · skip
                refine mv_iconst (pc := 82) (v := 0) B d_Book_pair_82 (by decide) ?_
                exact mv_iret (pc := 83) B hr rfl d_Book_pair_83 (Nat.le_refl _) (Nat.le_refl _) ⟨_, rfl, rfl, by first | exact Or.inl rfl | exact Or.inr ⟨by decide, by decide, by subst_vars; decide, by subst_vars; decide⟩⟩
              · skip
                refine mv_iload_n (pc := 70) B d_Book_pair_70 rfl 2 rfl ?_
                refine mv_bipush (pc := 71) (v := 62) B d_Book_pair_71 (by decide) ?_
                refine mv_icmp_ne (pc := 73) (tgt := 82) B d_Book_pair_73 rfl (fun h73 => ?_) (fun h73 => ?_)
                · skip
                  refine mv_iconst (pc := 82) (v := 0) B d_Book_pair_82 (by decide) ?_
                  exact mv_iret (pc := 83) B hr rfl d_Book_pair_83 (Nat.le_refl _) (Nat.le_refl _) ⟨_, rfl, rfl, by first | exact Or.inl rfl | exact Or.inr ⟨by decide, by decide, by subst_vars; decide, by subst_vars; decide⟩⟩
                · skip
                  refine mv_sipush (pc := 76) (v := 260) B d_Book_pair_76 (by decide) ?_
                  refine mv_goto (pc := 79) (tgt := 83) B d_Book_pair_79 rfl ?_
                  exact mv_iret (pc := 83) B hr rfl d_Book_pair_83 (Nat.le_refl _) (Nat.le_refl _) ⟨_, rfl, rfl, by first | exact Or.inl rfl | exact Or.inr ⟨by decide, by decide, by subst_vars; decide, by subst_vars; decide⟩⟩
            · skip
              refine mv_iload_n (pc := 54) B d_Book_pair_54 rfl 2 rfl ?_
              refine mv_bipush (pc := 55) (v := 60) B d_Book_pair_55 (by decide) ?_
              refine mv_icmp_ne (pc := 57) (tgt := 64) B d_Book_pair_57 rfl (fun h57 => ?_) (fun h57 => ?_)
              · skip
                refine mv_iload_n (pc := 64) B d_Book_pair_64 rfl 1 rfl ?_
                refine mv_bipush (pc := 65) (v := 62) B d_Book_pair_65 (by decide) ?_
                refine mv_icmp_ne (pc := 67) (tgt := 82) B d_Book_pair_67 rfl (fun h67 => ?_) (fun h67 => ?_)
                · skip
                  refine mv_iconst (pc := 82) (v := 0) B d_Book_pair_82 (by decide) ?_
                  exact mv_iret (pc := 83) B hr rfl d_Book_pair_83 (Nat.le_refl _) (Nat.le_refl _) ⟨_, rfl, rfl, by first | exact Or.inl rfl | exact Or.inr ⟨by decide, by decide, by subst_vars; decide, by subst_vars; decide⟩⟩
                · skip
                  refine mv_iload_n (pc := 70) B d_Book_pair_70 rfl 2 rfl ?_
                  refine mv_bipush (pc := 71) (v := 62) B d_Book_pair_71 (by decide) ?_
                  refine mv_icmp_ne (pc := 73) (tgt := 82) B d_Book_pair_73 rfl (fun h73 => ?_) (fun h73 => ?_)
                  · skip
                    refine mv_iconst (pc := 82) (v := 0) B d_Book_pair_82 (by decide) ?_
                    exact mv_iret (pc := 83) B hr rfl d_Book_pair_83 (Nat.le_refl _) (Nat.le_refl _) ⟨_, rfl, rfl, by first | exact Or.inl rfl | exact Or.inr ⟨by decide, by decide, by subst_vars; decide, by subst_vars; decide⟩⟩
                  · skip
                    refine mv_sipush (pc := 76) (v := 260) B d_Book_pair_76 (by decide) ?_
                    refine mv_goto (pc := 79) (tgt := 83) B d_Book_pair_79 rfl ?_
                    exact mv_iret (pc := 83) B hr rfl d_Book_pair_83 (Nat.le_refl _) (Nat.le_refl _) ⟨_, rfl, rfl, by first | exact Or.inl rfl | exact Or.inr ⟨by decide, by decide, by subst_vars; decide, by subst_vars; decide⟩⟩
              · skip
                refine mv_sipush (pc := 60) (v := 259) B d_Book_pair_60 (by decide) ?_
                exact mv_iret (pc := 63) B hr rfl d_Book_pair_63 (Nat.le_refl _) (Nat.le_refl _) ⟨_, rfl, rfl, by first | exact Or.inl rfl | exact Or.inr ⟨by decide, by decide, by subst_vars; decide, by subst_vars; decide⟩⟩
          · skip
            refine mv_sipush (pc := 44) (v := 258) B d_Book_pair_44 (by decide) ?_
            exact mv_iret (pc := 47) B hr rfl d_Book_pair_47 (Nat.le_refl _) (Nat.le_refl _) ⟨_, rfl, rfl, by first | exact Or.inl rfl | exact Or.inr ⟨by decide, by decide, by subst_vars; decide, by subst_vars; decide⟩⟩
      · skip
        refine mv_iload_n (pc := 22) B d_Book_pair_22 rfl 2 rfl ?_
        refine mv_bipush (pc := 23) (v := 61) B d_Book_pair_23 (by decide) ?_
        refine mv_icmp_ne (pc := 25) (tgt := 32) B d_Book_pair_25 rfl (fun h25 => ?_) (fun h25 => ?_)
        · skip
          refine mv_iload_n (pc := 32) B d_Book_pair_32 rfl 1 rfl ?_
          refine mv_bipush (pc := 33) (v := 60) B d_Book_pair_33 (by decide) ?_
          refine mv_icmp_ne (pc := 35) (tgt := 48) B d_Book_pair_35 rfl (fun h35 => ?_) (fun h35 => ?_)
          · skip
            refine mv_iload_n (pc := 48) B d_Book_pair_48 rfl 1 rfl ?_
            refine mv_bipush (pc := 49) (v := 60) B d_Book_pair_49 (by decide) ?_
            refine mv_icmp_ne (pc := 51) (tgt := 64) B d_Book_pair_51 rfl (fun h51 => ?_) (fun h51 => ?_)
            · skip
              refine mv_iload_n (pc := 64) B d_Book_pair_64 rfl 1 rfl ?_
              refine mv_bipush (pc := 65) (v := 62) B d_Book_pair_65 (by decide) ?_
              refine mv_icmp_ne (pc := 67) (tgt := 82) B d_Book_pair_67 rfl (fun h67 => ?_) (fun h67 => ?_)
              · skip
                refine mv_iconst (pc := 82) (v := 0) B d_Book_pair_82 (by decide) ?_
                exact mv_iret (pc := 83) B hr rfl d_Book_pair_83 (Nat.le_refl _) (Nat.le_refl _) ⟨_, rfl, rfl, by first | exact Or.inl rfl | exact Or.inr ⟨by decide, by decide, by subst_vars; decide, by subst_vars; decide⟩⟩
              · skip
                refine mv_iload_n (pc := 70) B d_Book_pair_70 rfl 2 rfl ?_
                refine mv_bipush (pc := 71) (v := 62) B d_Book_pair_71 (by decide) ?_
                refine mv_icmp_ne (pc := 73) (tgt := 82) B d_Book_pair_73 rfl (fun h73 => ?_) (fun h73 => ?_)
                · skip
                  refine mv_iconst (pc := 82) (v := 0) B d_Book_pair_82 (by decide) ?_
                  exact mv_iret (pc := 83) B hr rfl d_Book_pair_83 (Nat.le_refl _) (Nat.le_refl _) ⟨_, rfl, rfl, by first | exact Or.inl rfl | exact Or.inr ⟨by decide, by decide, by subst_vars; decide, by subst_vars; decide⟩⟩
                · skip
                  refine mv_sipush (pc := 76) (v := 260) B d_Book_pair_76 (by decide) ?_
                  refine mv_goto (pc := 79) (tgt := 83) B d_Book_pair_79 rfl ?_
                  exact mv_iret (pc := 83) B hr rfl d_Book_pair_83 (Nat.le_refl _) (Nat.le_refl _) ⟨_, rfl, rfl, by first | exact Or.inl rfl | exact Or.inr ⟨by decide, by decide, by subst_vars; decide, by subst_vars; decide⟩⟩
            · skip
              refine mv_iload_n (pc := 54) B d_Book_pair_54 rfl 2 rfl ?_
              refine mv_bipush (pc := 55) (v := 60) B d_Book_pair_55 (by decide) ?_
              refine mv_icmp_ne (pc := 57) (tgt := 64) B d_Book_pair_57 rfl (fun h57 => ?_) (fun h57 => ?_)
              · skip
                refine mv_iload_n (pc := 64) B d_Book_pair_64 rfl 1 rfl ?_
                refine mv_bipush (pc := 65) (v := 62) B d_Book_pair_65 (by decide) ?_
                refine mv_icmp_ne (pc := 67) (tgt := 82) B d_Book_pair_67 rfl (fun h67 => ?_) (fun h67 => ?_)
                · skip
                  refine mv_iconst (pc := 82) (v := 0) B d_Book_pair_82 (by decide) ?_
                  exact mv_iret (pc := 83) B hr rfl d_Book_pair_83 (Nat.le_refl _) (Nat.le_refl _) ⟨_, rfl, rfl, by first | exact Or.inl rfl | exact Or.inr ⟨by decide, by decide, by subst_vars; decide, by subst_vars; decide⟩⟩
                · skip
                  refine mv_iload_n (pc := 70) B d_Book_pair_70 rfl 2 rfl ?_
                  refine mv_bipush (pc := 71) (v := 62) B d_Book_pair_71 (by decide) ?_
                  refine mv_icmp_ne (pc := 73) (tgt := 82) B d_Book_pair_73 rfl (fun h73 => ?_) (fun h73 => ?_)
                  · skip
                    refine mv_iconst (pc := 82) (v := 0) B d_Book_pair_82 (by decide) ?_
                    exact mv_iret (pc := 83) B hr rfl d_Book_pair_83 (Nat.le_refl _) (Nat.le_refl _) ⟨_, rfl, rfl, by first | exact Or.inl rfl | exact Or.inr ⟨by decide, by decide, by subst_vars; decide, by subst_vars; decide⟩⟩
                  · skip
                    refine mv_sipush (pc := 76) (v := 260) B d_Book_pair_76 (by decide) ?_
                    refine mv_goto (pc := 79) (tgt := 83) B d_Book_pair_79 rfl ?_
                    exact mv_iret (pc := 83) B hr rfl d_Book_pair_83 (Nat.le_refl _) (Nat.le_refl _) ⟨_, rfl, rfl, by first | exact Or.inl rfl | exact Or.inr ⟨by decide, by decide, by subst_vars; decide, by subst_vars; decide⟩⟩
              · skip
                refine mv_sipush (pc := 60) (v := 259) B d_Book_pair_60 (by decide) ?_
                exact mv_iret (pc := 63) B hr rfl d_Book_pair_63 (Nat.le_refl _) (Nat.le_refl _) ⟨_, rfl, rfl, by first | exact Or.inl rfl | exact Or.inr ⟨by decide, by decide, by subst_vars; decide, by subst_vars; decide⟩⟩
          · skip
            refine mv_iload_n (pc := 38) B d_Book_pair_38 rfl 2 rfl ?_
            refine mv_bipush (pc := 39) (v := 61) B d_Book_pair_39 (by decide) ?_
            refine mv_icmp_ne (pc := 41) (tgt := 48) B d_Book_pair_41 rfl (fun h41 => ?_) (fun h41 => ?_)
            · skip
              refine mv_iload_n (pc := 48) B d_Book_pair_48 rfl 1 rfl ?_
              refine mv_bipush (pc := 49) (v := 60) B d_Book_pair_49 (by decide) ?_
              refine mv_icmp_ne (pc := 51) (tgt := 64) B d_Book_pair_51 rfl (fun h51 => ?_) (fun h51 => ?_)
              · skip
                refine mv_iload_n (pc := 64) B d_Book_pair_64 rfl 1 rfl ?_
                refine mv_bipush (pc := 65) (v := 62) B d_Book_pair_65 (by decide) ?_
                refine mv_icmp_ne (pc := 67) (tgt := 82) B d_Book_pair_67 rfl (fun h67 => ?_) (fun h67 => ?_)
                · skip
                  refine mv_iconst (pc := 82) (v := 0) B d_Book_pair_82 (by decide) ?_
                  exact mv_iret (pc := 83) B hr rfl d_Book_pair_83 (Nat.le_refl _) (Nat.le_refl _) ⟨_, rfl, rfl, by first | exact Or.inl rfl | exact Or.inr ⟨by decide, by decide, by subst_vars; decide, by subst_vars; decide⟩⟩
                · skip
                  refine mv_iload_n (pc := 70) B d_Book_pair_70 rfl 2 rfl ?_
                  refine mv_bipush (pc := 71) (v := 62) B d_Book_pair_71 (by decide) ?_
                  refine mv_icmp_ne (pc := 73) (tgt := 82) B d_Book_pair_73 rfl (fun h73 => ?_) (fun h73 => ?_)
                  · skip
                    refine mv_iconst (pc := 82) (v := 0) B d_Book_pair_82 (by decide) ?_
                    exact mv_iret (pc := 83) B hr rfl d_Book_pair_83 (Nat.le_refl _) (Nat.le_refl _) ⟨_, rfl, rfl, by first | exact Or.inl rfl | exact Or.inr ⟨by decide, by decide, by subst_vars; decide, by subst_vars; decide⟩⟩
                  · skip
                    refine mv_sipush (pc := 76) (v := 260) B d_Book_pair_76 (by decide) ?_
                    refine mv_goto (pc := 79) (tgt := 83) B d_Book_pair_79 rfl ?_
                    exact mv_iret (pc := 83) B hr rfl d_Book_pair_83 (Nat.le_refl _) (Nat.le_refl _) ⟨_, rfl, rfl, by first | exact Or.inl rfl | exact Or.inr ⟨by decide, by decide, by subst_vars; decide, by subst_vars; decide⟩⟩
              · skip
                refine mv_iload_n (pc := 54) B d_Book_pair_54 rfl 2 rfl ?_
                refine mv_bipush (pc := 55) (v := 60) B d_Book_pair_55 (by decide) ?_
                refine mv_icmp_ne (pc := 57) (tgt := 64) B d_Book_pair_57 rfl (fun h57 => ?_) (fun h57 => ?_)
                · skip
                  refine mv_iload_n (pc := 64) B d_Book_pair_64 rfl 1 rfl ?_
                  refine mv_bipush (pc := 65) (v := 62) B d_Book_pair_65 (by decide) ?_
                  refine mv_icmp_ne (pc := 67) (tgt := 82) B d_Book_pair_67 rfl (fun h67 => ?_) (fun h67 => ?_)
                  · skip
                    refine mv_iconst (pc := 82) (v := 0) B d_Book_pair_82 (by decide) ?_
                    exact mv_iret (pc := 83) B hr rfl d_Book_pair_83 (Nat.le_refl _) (Nat.le_refl _) ⟨_, rfl, rfl, by first | exact Or.inl rfl | exact Or.inr ⟨by decide, by decide, by subst_vars; decide, by subst_vars; decide⟩⟩
                  · skip
                    refine mv_iload_n (pc := 70) B d_Book_pair_70 rfl 2 rfl ?_
                    refine mv_bipush (pc := 71) (v := 62) B d_Book_pair_71 (by decide) ?_
                    refine mv_icmp_ne (pc := 73) (tgt := 82) B d_Book_pair_73 rfl (fun h73 => ?_) (fun h73 => ?_)
                    · skip
                      refine mv_iconst (pc := 82) (v := 0) B d_Book_pair_82 (by decide) ?_
                      exact mv_iret (pc := 83) B hr rfl d_Book_pair_83 (Nat.le_refl _) (Nat.le_refl _) ⟨_, rfl, rfl, by first | exact Or.inl rfl | exact Or.inr ⟨by decide, by decide, by subst_vars; decide, by subst_vars; decide⟩⟩
                    · skip
                      refine mv_sipush (pc := 76) (v := 260) B d_Book_pair_76 (by decide) ?_
                      refine mv_goto (pc := 79) (tgt := 83) B d_Book_pair_79 rfl ?_
                      exact mv_iret (pc := 83) B hr rfl d_Book_pair_83 (Nat.le_refl _) (Nat.le_refl _) ⟨_, rfl, rfl, by first | exact Or.inl rfl | exact Or.inr ⟨by decide, by decide, by subst_vars; decide, by subst_vars; decide⟩⟩
                · skip
                  refine mv_sipush (pc := 60) (v := 259) B d_Book_pair_60 (by decide) ?_
                  exact mv_iret (pc := 63) B hr rfl d_Book_pair_63 (Nat.le_refl _) (Nat.le_refl _) ⟨_, rfl, rfl, by first | exact Or.inl rfl | exact Or.inr ⟨by decide, by decide, by subst_vars; decide, by subst_vars; decide⟩⟩
            · skip
              refine mv_sipush (pc := 44) (v := 258) B d_Book_pair_44 (by decide) ?_
              exact mv_iret (pc := 47) B hr rfl d_Book_pair_47 (Nat.le_refl _) (Nat.le_refl _) ⟨_, rfl, rfl, by first | exact Or.inl rfl | exact Or.inr ⟨by decide, by decide, by subst_vars; decide, by subst_vars; decide⟩⟩
        · skip
          refine mv_sipush (pc := 28) (v := 257) B d_Book_pair_28 (by decide) ?_
          exact mv_iret (pc := 31) B hr rfl d_Book_pair_31 (Nat.le_refl _) (Nat.le_refl _) ⟨_, rfl, rfl, by first | exact Or.inl rfl | exact Or.inr ⟨by decide, by decide, by subst_vars; decide, by subst_vars; decide⟩⟩
    · skip
      refine mv_sipush (pc := 12) (v := 256) B d_Book_pair_12 (by decide) ?_
      exact mv_iret (pc := 15) B hr rfl d_Book_pair_15 (Nat.le_refl _) (Nat.le_refl _) ⟨_, rfl, rfl, by first | exact Or.inl rfl | exact Or.inr ⟨by decide, by decide, by subst_vars; decide, by subst_vars; decide⟩⟩
set_option maxHeartbeats 4000000 in
set_option maxRecDepth 100000 in
theorem c_Book_pair_y (l : Launch) {dA : FieldType → ClassId} {D : va_G} {al : Nat → Nat} {ext : mv_Sh} {sk sv : Nat → Nat} (hi : mv_inj (mg dA D al ext)) (σ : mv_H) (x y : Int32) : mv_C l y_Book_pair (Cond.code y_Book_pair b_Book_pair 3 (Option.some Jvm.ClassFile.FieldType.int) :: ma) ({ frames := 0, cells := 0, slots := 0, locals := 0 }) (mg dA D al ext) (mK sk sv) [.ref (al 108), .int x, .int y] σ (mv_Ri (fun v σ1 => σ1 = σ ∧ (v = 0 ∨ (256 ≤ v.toInt ∧ v.toInt ≤ 260 ∧ 33 ≤ x.toInt ∧ 60 ≤ y.toInt)))) := by
  refine mv_C.ofV (cc := b_Book_pair) (nL := 3) (ret := (Option.some Jvm.ClassFile.FieldType.int)) (by decide +kernel) rfl hi (Nat.le_of_ble_eq_true rfl) ?_
  intro p e s m below meth c B hNs hr hnm hno
  refine mv_iload_n (pc := 0) B d_Book_pair_0 rfl 1 rfl ?_
  refine mv_bipush (pc := 1) (v := 61) B d_Book_pair_1 (by decide) ?_
  refine mv_icmp_ne (pc := 3) (tgt := 16) B d_Book_pair_3 rfl (fun h3 => ?_) (fun h3 => ?_)
  · skip
    refine mv_iload_n (pc := 16) B d_Book_pair_16 rfl 1 rfl ?_
    refine mv_bipush (pc := 17) (v := 33) B d_Book_pair_17 (by decide) ?_
    refine mv_icmp_ne (pc := 19) (tgt := 32) B d_Book_pair_19 rfl (fun h19 => ?_) (fun h19 => ?_)
    · skip
      refine mv_iload_n (pc := 32) B d_Book_pair_32 rfl 1 rfl ?_
      refine mv_bipush (pc := 33) (v := 60) B d_Book_pair_33 (by decide) ?_
      refine mv_icmp_ne (pc := 35) (tgt := 48) B d_Book_pair_35 rfl (fun h35 => ?_) (fun h35 => ?_)
      · skip
        refine mv_iload_n (pc := 48) B d_Book_pair_48 rfl 1 rfl ?_
        refine mv_bipush (pc := 49) (v := 60) B d_Book_pair_49 (by decide) ?_
        refine mv_icmp_ne (pc := 51) (tgt := 64) B d_Book_pair_51 rfl (fun h51 => ?_) (fun h51 => ?_)
        · skip
          refine mv_iload_n (pc := 64) B d_Book_pair_64 rfl 1 rfl ?_
          refine mv_bipush (pc := 65) (v := 62) B d_Book_pair_65 (by decide) ?_
          refine mv_icmp_ne (pc := 67) (tgt := 82) B d_Book_pair_67 rfl (fun h67 => ?_) (fun h67 => ?_)
          · skip
            refine mv_iconst (pc := 82) (v := 0) B d_Book_pair_82 (by decide) ?_
            exact mv_iret (pc := 83) B hr rfl d_Book_pair_83 (Nat.le_refl _) (Nat.le_refl _) ⟨_, rfl, rfl, by first | exact Or.inl rfl | exact Or.inr ⟨by decide, by decide, by subst_vars; decide, by subst_vars; decide⟩⟩
          · skip
            refine mv_iload_n (pc := 70) B d_Book_pair_70 rfl 2 rfl ?_
            refine mv_bipush (pc := 71) (v := 62) B d_Book_pair_71 (by decide) ?_
            refine mv_icmp_ne (pc := 73) (tgt := 82) B d_Book_pair_73 rfl (fun h73 => ?_) (fun h73 => ?_)
            · skip
              refine mv_iconst (pc := 82) (v := 0) B d_Book_pair_82 (by decide) ?_
              exact mv_iret (pc := 83) B hr rfl d_Book_pair_83 (Nat.le_refl _) (Nat.le_refl _) ⟨_, rfl, rfl, by first | exact Or.inl rfl | exact Or.inr ⟨by decide, by decide, by subst_vars; decide, by subst_vars; decide⟩⟩
            · skip
              refine mv_sipush (pc := 76) (v := 260) B d_Book_pair_76 (by decide) ?_
              refine mv_goto (pc := 79) (tgt := 83) B d_Book_pair_79 rfl ?_
              exact mv_iret (pc := 83) B hr rfl d_Book_pair_83 (Nat.le_refl _) (Nat.le_refl _) ⟨_, rfl, rfl, by first | exact Or.inl rfl | exact Or.inr ⟨by decide, by decide, by subst_vars; decide, by subst_vars; decide⟩⟩
        · skip
          refine mv_iload_n (pc := 54) B d_Book_pair_54 rfl 2 rfl ?_
          refine mv_bipush (pc := 55) (v := 60) B d_Book_pair_55 (by decide) ?_
          refine mv_icmp_ne (pc := 57) (tgt := 64) B d_Book_pair_57 rfl (fun h57 => ?_) (fun h57 => ?_)
          · skip
            refine mv_iload_n (pc := 64) B d_Book_pair_64 rfl 1 rfl ?_
            refine mv_bipush (pc := 65) (v := 62) B d_Book_pair_65 (by decide) ?_
            refine mv_icmp_ne (pc := 67) (tgt := 82) B d_Book_pair_67 rfl (fun h67 => ?_) (fun h67 => ?_)
            · skip
              refine mv_iconst (pc := 82) (v := 0) B d_Book_pair_82 (by decide) ?_
              exact mv_iret (pc := 83) B hr rfl d_Book_pair_83 (Nat.le_refl _) (Nat.le_refl _) ⟨_, rfl, rfl, by first | exact Or.inl rfl | exact Or.inr ⟨by decide, by decide, by subst_vars; decide, by subst_vars; decide⟩⟩
            · skip
              refine mv_iload_n (pc := 70) B d_Book_pair_70 rfl 2 rfl ?_
              refine mv_bipush (pc := 71) (v := 62) B d_Book_pair_71 (by decide) ?_
              refine mv_icmp_ne (pc := 73) (tgt := 82) B d_Book_pair_73 rfl (fun h73 => ?_) (fun h73 => ?_)
              · skip
                refine mv_iconst (pc := 82) (v := 0) B d_Book_pair_82 (by decide) ?_
                exact mv_iret (pc := 83) B hr rfl d_Book_pair_83 (Nat.le_refl _) (Nat.le_refl _) ⟨_, rfl, rfl, by first | exact Or.inl rfl | exact Or.inr ⟨by decide, by decide, by subst_vars; decide, by subst_vars; decide⟩⟩
              · skip
                refine mv_sipush (pc := 76) (v := 260) B d_Book_pair_76 (by decide) ?_
                refine mv_goto (pc := 79) (tgt := 83) B d_Book_pair_79 rfl ?_
                exact mv_iret (pc := 83) B hr rfl d_Book_pair_83 (Nat.le_refl _) (Nat.le_refl _) ⟨_, rfl, rfl, by first | exact Or.inl rfl | exact Or.inr ⟨by decide, by decide, by subst_vars; decide, by subst_vars; decide⟩⟩
          · skip
            refine mv_sipush (pc := 60) (v := 259) B d_Book_pair_60 (by decide) ?_
            exact mv_iret (pc := 63) B hr rfl d_Book_pair_63 (Nat.le_refl _) (Nat.le_refl _) ⟨_, rfl, rfl, by first | exact Or.inl rfl | exact Or.inr ⟨by decide, by decide, by subst_vars; decide, by subst_vars; decide⟩⟩
      · skip
        refine mv_iload_n (pc := 38) B d_Book_pair_38 rfl 2 rfl ?_
        refine mv_bipush (pc := 39) (v := 61) B d_Book_pair_39 (by decide) ?_
        refine mv_icmp_ne (pc := 41) (tgt := 48) B d_Book_pair_41 rfl (fun h41 => ?_) (fun h41 => ?_)
        · skip
          refine mv_iload_n (pc := 48) B d_Book_pair_48 rfl 1 rfl ?_
          refine mv_bipush (pc := 49) (v := 60) B d_Book_pair_49 (by decide) ?_
          refine mv_icmp_ne (pc := 51) (tgt := 64) B d_Book_pair_51 rfl (fun h51 => ?_) (fun h51 => ?_)
          · skip
            refine mv_iload_n (pc := 64) B d_Book_pair_64 rfl 1 rfl ?_
            refine mv_bipush (pc := 65) (v := 62) B d_Book_pair_65 (by decide) ?_
            refine mv_icmp_ne (pc := 67) (tgt := 82) B d_Book_pair_67 rfl (fun h67 => ?_) (fun h67 => ?_)
            · skip
              refine mv_iconst (pc := 82) (v := 0) B d_Book_pair_82 (by decide) ?_
              exact mv_iret (pc := 83) B hr rfl d_Book_pair_83 (Nat.le_refl _) (Nat.le_refl _) ⟨_, rfl, rfl, by first | exact Or.inl rfl | exact Or.inr ⟨by decide, by decide, by subst_vars; decide, by subst_vars; decide⟩⟩
            · skip
              refine mv_iload_n (pc := 70) B d_Book_pair_70 rfl 2 rfl ?_
              refine mv_bipush (pc := 71) (v := 62) B d_Book_pair_71 (by decide) ?_
              refine mv_icmp_ne (pc := 73) (tgt := 82) B d_Book_pair_73 rfl (fun h73 => ?_) (fun h73 => ?_)
              · skip
                refine mv_iconst (pc := 82) (v := 0) B d_Book_pair_82 (by decide) ?_
                exact mv_iret (pc := 83) B hr rfl d_Book_pair_83 (Nat.le_refl _) (Nat.le_refl _) ⟨_, rfl, rfl, by first | exact Or.inl rfl | exact Or.inr ⟨by decide, by decide, by subst_vars; decide, by subst_vars; decide⟩⟩
              · skip
                refine mv_sipush (pc := 76) (v := 260) B d_Book_pair_76 (by decide) ?_
                refine mv_goto (pc := 79) (tgt := 83) B d_Book_pair_79 rfl ?_
                exact mv_iret (pc := 83) B hr rfl d_Book_pair_83 (Nat.le_refl _) (Nat.le_refl _) ⟨_, rfl, rfl, by first | exact Or.inl rfl | exact Or.inr ⟨by decide, by decide, by subst_vars; decide, by subst_vars; decide⟩⟩
          · skip
            refine mv_iload_n (pc := 54) B d_Book_pair_54 rfl 2 rfl ?_
            refine mv_bipush (pc := 55) (v := 60) B d_Book_pair_55 (by decide) ?_
            refine mv_icmp_ne (pc := 57) (tgt := 64) B d_Book_pair_57 rfl (fun h57 => ?_) (fun h57 => ?_)
            · skip
              refine mv_iload_n (pc := 64) B d_Book_pair_64 rfl 1 rfl ?_
              refine mv_bipush (pc := 65) (v := 62) B d_Book_pair_65 (by decide) ?_
              refine mv_icmp_ne (pc := 67) (tgt := 82) B d_Book_pair_67 rfl (fun h67 => ?_) (fun h67 => ?_)
              · skip
                refine mv_iconst (pc := 82) (v := 0) B d_Book_pair_82 (by decide) ?_
                exact mv_iret (pc := 83) B hr rfl d_Book_pair_83 (Nat.le_refl _) (Nat.le_refl _) ⟨_, rfl, rfl, by first | exact Or.inl rfl | exact Or.inr ⟨by decide, by decide, by subst_vars; decide, by subst_vars; decide⟩⟩
              · skip
                refine mv_iload_n (pc := 70) B d_Book_pair_70 rfl 2 rfl ?_
                refine mv_bipush (pc := 71) (v := 62) B d_Book_pair_71 (by decide) ?_
                refine mv_icmp_ne (pc := 73) (tgt := 82) B d_Book_pair_73 rfl (fun h73 => ?_) (fun h73 => ?_)
                · skip
                  refine mv_iconst (pc := 82) (v := 0) B d_Book_pair_82 (by decide) ?_
                  exact mv_iret (pc := 83) B hr rfl d_Book_pair_83 (Nat.le_refl _) (Nat.le_refl _) ⟨_, rfl, rfl, by first | exact Or.inl rfl | exact Or.inr ⟨by decide, by decide, by subst_vars; decide, by subst_vars; decide⟩⟩
                · skip
                  refine mv_sipush (pc := 76) (v := 260) B d_Book_pair_76 (by decide) ?_
                  refine mv_goto (pc := 79) (tgt := 83) B d_Book_pair_79 rfl ?_
                  exact mv_iret (pc := 83) B hr rfl d_Book_pair_83 (Nat.le_refl _) (Nat.le_refl _) ⟨_, rfl, rfl, by first | exact Or.inl rfl | exact Or.inr ⟨by decide, by decide, by subst_vars; decide, by subst_vars; decide⟩⟩
            · skip
              refine mv_sipush (pc := 60) (v := 259) B d_Book_pair_60 (by decide) ?_
              exact mv_iret (pc := 63) B hr rfl d_Book_pair_63 (Nat.le_refl _) (Nat.le_refl _) ⟨_, rfl, rfl, by first | exact Or.inl rfl | exact Or.inr ⟨by decide, by decide, by subst_vars; decide, by subst_vars; decide⟩⟩
        · skip
          refine mv_sipush (pc := 44) (v := 258) B d_Book_pair_44 (by decide) ?_
          exact mv_iret (pc := 47) B hr rfl d_Book_pair_47 (Nat.le_refl _) (Nat.le_refl _) ⟨_, rfl, rfl, by first | exact Or.inl rfl | exact Or.inr ⟨by decide, by decide, by subst_vars; decide, by subst_vars; decide⟩⟩
    · skip
      refine mv_iload_n (pc := 22) B d_Book_pair_22 rfl 2 rfl ?_
      refine mv_bipush (pc := 23) (v := 61) B d_Book_pair_23 (by decide) ?_
      refine mv_icmp_ne (pc := 25) (tgt := 32) B d_Book_pair_25 rfl (fun h25 => ?_) (fun h25 => ?_)
      · skip
        refine mv_iload_n (pc := 32) B d_Book_pair_32 rfl 1 rfl ?_
        refine mv_bipush (pc := 33) (v := 60) B d_Book_pair_33 (by decide) ?_
        refine mv_icmp_ne (pc := 35) (tgt := 48) B d_Book_pair_35 rfl (fun h35 => ?_) (fun h35 => ?_)
        · skip
          refine mv_iload_n (pc := 48) B d_Book_pair_48 rfl 1 rfl ?_
          refine mv_bipush (pc := 49) (v := 60) B d_Book_pair_49 (by decide) ?_
          refine mv_icmp_ne (pc := 51) (tgt := 64) B d_Book_pair_51 rfl (fun h51 => ?_) (fun h51 => ?_)
          · skip
            refine mv_iload_n (pc := 64) B d_Book_pair_64 rfl 1 rfl ?_
            refine mv_bipush (pc := 65) (v := 62) B d_Book_pair_65 (by decide) ?_
            refine mv_icmp_ne (pc := 67) (tgt := 82) B d_Book_pair_67 rfl (fun h67 => ?_) (fun h67 => ?_)
            · skip
              refine mv_iconst (pc := 82) (v := 0) B d_Book_pair_82 (by decide) ?_
              exact mv_iret (pc := 83) B hr rfl d_Book_pair_83 (Nat.le_refl _) (Nat.le_refl _) ⟨_, rfl, rfl, by first | exact Or.inl rfl | exact Or.inr ⟨by decide, by decide, by subst_vars; decide, by subst_vars; decide⟩⟩
            · skip
              refine mv_iload_n (pc := 70) B d_Book_pair_70 rfl 2 rfl ?_
              refine mv_bipush (pc := 71) (v := 62) B d_Book_pair_71 (by decide) ?_
              refine mv_icmp_ne (pc := 73) (tgt := 82) B d_Book_pair_73 rfl (fun h73 => ?_) (fun h73 => ?_)
              · skip
                refine mv_iconst (pc := 82) (v := 0) B d_Book_pair_82 (by decide) ?_
                exact mv_iret (pc := 83) B hr rfl d_Book_pair_83 (Nat.le_refl _) (Nat.le_refl _) ⟨_, rfl, rfl, by first | exact Or.inl rfl | exact Or.inr ⟨by decide, by decide, by subst_vars; decide, by subst_vars; decide⟩⟩
              · skip
                refine mv_sipush (pc := 76) (v := 260) B d_Book_pair_76 (by decide) ?_
                refine mv_goto (pc := 79) (tgt := 83) B d_Book_pair_79 rfl ?_
                exact mv_iret (pc := 83) B hr rfl d_Book_pair_83 (Nat.le_refl _) (Nat.le_refl _) ⟨_, rfl, rfl, by first | exact Or.inl rfl | exact Or.inr ⟨by decide, by decide, by subst_vars; decide, by subst_vars; decide⟩⟩
          · skip
            refine mv_iload_n (pc := 54) B d_Book_pair_54 rfl 2 rfl ?_
            refine mv_bipush (pc := 55) (v := 60) B d_Book_pair_55 (by decide) ?_
            refine mv_icmp_ne (pc := 57) (tgt := 64) B d_Book_pair_57 rfl (fun h57 => ?_) (fun h57 => ?_)
            · skip
              refine mv_iload_n (pc := 64) B d_Book_pair_64 rfl 1 rfl ?_
              refine mv_bipush (pc := 65) (v := 62) B d_Book_pair_65 (by decide) ?_
              refine mv_icmp_ne (pc := 67) (tgt := 82) B d_Book_pair_67 rfl (fun h67 => ?_) (fun h67 => ?_)
              · skip
                refine mv_iconst (pc := 82) (v := 0) B d_Book_pair_82 (by decide) ?_
                exact mv_iret (pc := 83) B hr rfl d_Book_pair_83 (Nat.le_refl _) (Nat.le_refl _) ⟨_, rfl, rfl, by first | exact Or.inl rfl | exact Or.inr ⟨by decide, by decide, by subst_vars; decide, by subst_vars; decide⟩⟩
              · skip
                refine mv_iload_n (pc := 70) B d_Book_pair_70 rfl 2 rfl ?_
                refine mv_bipush (pc := 71) (v := 62) B d_Book_pair_71 (by decide) ?_
                refine mv_icmp_ne (pc := 73) (tgt := 82) B d_Book_pair_73 rfl (fun h73 => ?_) (fun h73 => ?_)
                · skip
                  refine mv_iconst (pc := 82) (v := 0) B d_Book_pair_82 (by decide) ?_
                  exact mv_iret (pc := 83) B hr rfl d_Book_pair_83 (Nat.le_refl _) (Nat.le_refl _) ⟨_, rfl, rfl, by first | exact Or.inl rfl | exact Or.inr ⟨by decide, by decide, by subst_vars; decide, by subst_vars; decide⟩⟩
                · skip
                  refine mv_sipush (pc := 76) (v := 260) B d_Book_pair_76 (by decide) ?_
                  refine mv_goto (pc := 79) (tgt := 83) B d_Book_pair_79 rfl ?_
                  exact mv_iret (pc := 83) B hr rfl d_Book_pair_83 (Nat.le_refl _) (Nat.le_refl _) ⟨_, rfl, rfl, by first | exact Or.inl rfl | exact Or.inr ⟨by decide, by decide, by subst_vars; decide, by subst_vars; decide⟩⟩
            · skip
              refine mv_sipush (pc := 60) (v := 259) B d_Book_pair_60 (by decide) ?_
              exact mv_iret (pc := 63) B hr rfl d_Book_pair_63 (Nat.le_refl _) (Nat.le_refl _) ⟨_, rfl, rfl, by first | exact Or.inl rfl | exact Or.inr ⟨by decide, by decide, by subst_vars; decide, by subst_vars; decide⟩⟩
        · skip
          refine mv_iload_n (pc := 38) B d_Book_pair_38 rfl 2 rfl ?_
          refine mv_bipush (pc := 39) (v := 61) B d_Book_pair_39 (by decide) ?_
          refine mv_icmp_ne (pc := 41) (tgt := 48) B d_Book_pair_41 rfl (fun h41 => ?_) (fun h41 => ?_)
          · skip
            refine mv_iload_n (pc := 48) B d_Book_pair_48 rfl 1 rfl ?_
            refine mv_bipush (pc := 49) (v := 60) B d_Book_pair_49 (by decide) ?_
            refine mv_icmp_ne (pc := 51) (tgt := 64) B d_Book_pair_51 rfl (fun h51 => ?_) (fun h51 => ?_)
            · skip
              refine mv_iload_n (pc := 64) B d_Book_pair_64 rfl 1 rfl ?_
              refine mv_bipush (pc := 65) (v := 62) B d_Book_pair_65 (by decide) ?_
              refine mv_icmp_ne (pc := 67) (tgt := 82) B d_Book_pair_67 rfl (fun h67 => ?_) (fun h67 => ?_)
              · skip
                refine mv_iconst (pc := 82) (v := 0) B d_Book_pair_82 (by decide) ?_
                exact mv_iret (pc := 83) B hr rfl d_Book_pair_83 (Nat.le_refl _) (Nat.le_refl _) ⟨_, rfl, rfl, by first | exact Or.inl rfl | exact Or.inr ⟨by decide, by decide, by subst_vars; decide, by subst_vars; decide⟩⟩
              · skip
                refine mv_iload_n (pc := 70) B d_Book_pair_70 rfl 2 rfl ?_
                refine mv_bipush (pc := 71) (v := 62) B d_Book_pair_71 (by decide) ?_
                refine mv_icmp_ne (pc := 73) (tgt := 82) B d_Book_pair_73 rfl (fun h73 => ?_) (fun h73 => ?_)
                · skip
                  refine mv_iconst (pc := 82) (v := 0) B d_Book_pair_82 (by decide) ?_
                  exact mv_iret (pc := 83) B hr rfl d_Book_pair_83 (Nat.le_refl _) (Nat.le_refl _) ⟨_, rfl, rfl, by first | exact Or.inl rfl | exact Or.inr ⟨by decide, by decide, by subst_vars; decide, by subst_vars; decide⟩⟩
                · skip
                  refine mv_sipush (pc := 76) (v := 260) B d_Book_pair_76 (by decide) ?_
                  refine mv_goto (pc := 79) (tgt := 83) B d_Book_pair_79 rfl ?_
                  exact mv_iret (pc := 83) B hr rfl d_Book_pair_83 (Nat.le_refl _) (Nat.le_refl _) ⟨_, rfl, rfl, by first | exact Or.inl rfl | exact Or.inr ⟨by decide, by decide, by subst_vars; decide, by subst_vars; decide⟩⟩
            · skip
              refine mv_iload_n (pc := 54) B d_Book_pair_54 rfl 2 rfl ?_
              refine mv_bipush (pc := 55) (v := 60) B d_Book_pair_55 (by decide) ?_
              refine mv_icmp_ne (pc := 57) (tgt := 64) B d_Book_pair_57 rfl (fun h57 => ?_) (fun h57 => ?_)
              · skip
                refine mv_iload_n (pc := 64) B d_Book_pair_64 rfl 1 rfl ?_
                refine mv_bipush (pc := 65) (v := 62) B d_Book_pair_65 (by decide) ?_
                refine mv_icmp_ne (pc := 67) (tgt := 82) B d_Book_pair_67 rfl (fun h67 => ?_) (fun h67 => ?_)
                · skip
                  refine mv_iconst (pc := 82) (v := 0) B d_Book_pair_82 (by decide) ?_
                  exact mv_iret (pc := 83) B hr rfl d_Book_pair_83 (Nat.le_refl _) (Nat.le_refl _) ⟨_, rfl, rfl, by first | exact Or.inl rfl | exact Or.inr ⟨by decide, by decide, by subst_vars; decide, by subst_vars; decide⟩⟩
                · skip
                  refine mv_iload_n (pc := 70) B d_Book_pair_70 rfl 2 rfl ?_
                  refine mv_bipush (pc := 71) (v := 62) B d_Book_pair_71 (by decide) ?_
                  refine mv_icmp_ne (pc := 73) (tgt := 82) B d_Book_pair_73 rfl (fun h73 => ?_) (fun h73 => ?_)
                  · skip
                    refine mv_iconst (pc := 82) (v := 0) B d_Book_pair_82 (by decide) ?_
                    exact mv_iret (pc := 83) B hr rfl d_Book_pair_83 (Nat.le_refl _) (Nat.le_refl _) ⟨_, rfl, rfl, by first | exact Or.inl rfl | exact Or.inr ⟨by decide, by decide, by subst_vars; decide, by subst_vars; decide⟩⟩
                  · skip
                    refine mv_sipush (pc := 76) (v := 260) B d_Book_pair_76 (by decide) ?_
                    refine mv_goto (pc := 79) (tgt := 83) B d_Book_pair_79 rfl ?_
                    exact mv_iret (pc := 83) B hr rfl d_Book_pair_83 (Nat.le_refl _) (Nat.le_refl _) ⟨_, rfl, rfl, by first | exact Or.inl rfl | exact Or.inr ⟨by decide, by decide, by subst_vars; decide, by subst_vars; decide⟩⟩
              · skip
                refine mv_sipush (pc := 60) (v := 259) B d_Book_pair_60 (by decide) ?_
                exact mv_iret (pc := 63) B hr rfl d_Book_pair_63 (Nat.le_refl _) (Nat.le_refl _) ⟨_, rfl, rfl, by first | exact Or.inl rfl | exact Or.inr ⟨by decide, by decide, by subst_vars; decide, by subst_vars; decide⟩⟩
          · skip
            refine mv_sipush (pc := 44) (v := 258) B d_Book_pair_44 (by decide) ?_
            exact mv_iret (pc := 47) B hr rfl d_Book_pair_47 (Nat.le_refl _) (Nat.le_refl _) ⟨_, rfl, rfl, by first | exact Or.inl rfl | exact Or.inr ⟨by decide, by decide, by subst_vars; decide, by subst_vars; decide⟩⟩
      · skip
        refine mv_sipush (pc := 28) (v := 257) B d_Book_pair_28 (by decide) ?_
        exact mv_iret (pc := 31) B hr rfl d_Book_pair_31 (Nat.le_refl _) (Nat.le_refl _) ⟨_, rfl, rfl, by first | exact Or.inl rfl | exact Or.inr ⟨by decide, by decide, by subst_vars; decide, by subst_vars; decide⟩⟩
  · skip
    refine mv_iload_n (pc := 6) B d_Book_pair_6 rfl 2 rfl ?_
    refine mv_bipush (pc := 7) (v := 61) B d_Book_pair_7 (by decide) ?_
    refine mv_icmp_ne (pc := 9) (tgt := 16) B d_Book_pair_9 rfl (fun h9 => ?_) (fun h9 => ?_)
    · skip
      refine mv_iload_n (pc := 16) B d_Book_pair_16 rfl 1 rfl ?_
      refine mv_bipush (pc := 17) (v := 33) B d_Book_pair_17 (by decide) ?_
      refine mv_icmp_ne (pc := 19) (tgt := 32) B d_Book_pair_19 rfl (fun h19 => ?_) (fun h19 => ?_)
      · skip
        refine mv_iload_n (pc := 32) B d_Book_pair_32 rfl 1 rfl ?_
        refine mv_bipush (pc := 33) (v := 60) B d_Book_pair_33 (by decide) ?_
        refine mv_icmp_ne (pc := 35) (tgt := 48) B d_Book_pair_35 rfl (fun h35 => ?_) (fun h35 => ?_)
        · skip
          refine mv_iload_n (pc := 48) B d_Book_pair_48 rfl 1 rfl ?_
          refine mv_bipush (pc := 49) (v := 60) B d_Book_pair_49 (by decide) ?_
          refine mv_icmp_ne (pc := 51) (tgt := 64) B d_Book_pair_51 rfl (fun h51 => ?_) (fun h51 => ?_)
          · skip
            refine mv_iload_n (pc := 64) B d_Book_pair_64 rfl 1 rfl ?_
            refine mv_bipush (pc := 65) (v := 62) B d_Book_pair_65 (by decide) ?_
            refine mv_icmp_ne (pc := 67) (tgt := 82) B d_Book_pair_67 rfl (fun h67 => ?_) (fun h67 => ?_)
            · skip
              refine mv_iconst (pc := 82) (v := 0) B d_Book_pair_82 (by decide) ?_
              exact mv_iret (pc := 83) B hr rfl d_Book_pair_83 (Nat.le_refl _) (Nat.le_refl _) ⟨_, rfl, rfl, by first | exact Or.inl rfl | exact Or.inr ⟨by decide, by decide, by subst_vars; decide, by subst_vars; decide⟩⟩
            · skip
              refine mv_iload_n (pc := 70) B d_Book_pair_70 rfl 2 rfl ?_
              refine mv_bipush (pc := 71) (v := 62) B d_Book_pair_71 (by decide) ?_
              refine mv_icmp_ne (pc := 73) (tgt := 82) B d_Book_pair_73 rfl (fun h73 => ?_) (fun h73 => ?_)
              · skip
                refine mv_iconst (pc := 82) (v := 0) B d_Book_pair_82 (by decide) ?_
                exact mv_iret (pc := 83) B hr rfl d_Book_pair_83 (Nat.le_refl _) (Nat.le_refl _) ⟨_, rfl, rfl, by first | exact Or.inl rfl | exact Or.inr ⟨by decide, by decide, by subst_vars; decide, by subst_vars; decide⟩⟩
              · skip
                refine mv_sipush (pc := 76) (v := 260) B d_Book_pair_76 (by decide) ?_
                refine mv_goto (pc := 79) (tgt := 83) B d_Book_pair_79 rfl ?_
                exact mv_iret (pc := 83) B hr rfl d_Book_pair_83 (Nat.le_refl _) (Nat.le_refl _) ⟨_, rfl, rfl, by first | exact Or.inl rfl | exact Or.inr ⟨by decide, by decide, by subst_vars; decide, by subst_vars; decide⟩⟩
          · skip
            refine mv_iload_n (pc := 54) B d_Book_pair_54 rfl 2 rfl ?_
            refine mv_bipush (pc := 55) (v := 60) B d_Book_pair_55 (by decide) ?_
            refine mv_icmp_ne (pc := 57) (tgt := 64) B d_Book_pair_57 rfl (fun h57 => ?_) (fun h57 => ?_)
            · skip
              refine mv_iload_n (pc := 64) B d_Book_pair_64 rfl 1 rfl ?_
              refine mv_bipush (pc := 65) (v := 62) B d_Book_pair_65 (by decide) ?_
              refine mv_icmp_ne (pc := 67) (tgt := 82) B d_Book_pair_67 rfl (fun h67 => ?_) (fun h67 => ?_)
              · skip
                refine mv_iconst (pc := 82) (v := 0) B d_Book_pair_82 (by decide) ?_
                exact mv_iret (pc := 83) B hr rfl d_Book_pair_83 (Nat.le_refl _) (Nat.le_refl _) ⟨_, rfl, rfl, by first | exact Or.inl rfl | exact Or.inr ⟨by decide, by decide, by subst_vars; decide, by subst_vars; decide⟩⟩
              · skip
                refine mv_iload_n (pc := 70) B d_Book_pair_70 rfl 2 rfl ?_
                refine mv_bipush (pc := 71) (v := 62) B d_Book_pair_71 (by decide) ?_
                refine mv_icmp_ne (pc := 73) (tgt := 82) B d_Book_pair_73 rfl (fun h73 => ?_) (fun h73 => ?_)
                · skip
                  refine mv_iconst (pc := 82) (v := 0) B d_Book_pair_82 (by decide) ?_
                  exact mv_iret (pc := 83) B hr rfl d_Book_pair_83 (Nat.le_refl _) (Nat.le_refl _) ⟨_, rfl, rfl, by first | exact Or.inl rfl | exact Or.inr ⟨by decide, by decide, by subst_vars; decide, by subst_vars; decide⟩⟩
                · skip
                  refine mv_sipush (pc := 76) (v := 260) B d_Book_pair_76 (by decide) ?_
                  refine mv_goto (pc := 79) (tgt := 83) B d_Book_pair_79 rfl ?_
                  exact mv_iret (pc := 83) B hr rfl d_Book_pair_83 (Nat.le_refl _) (Nat.le_refl _) ⟨_, rfl, rfl, by first | exact Or.inl rfl | exact Or.inr ⟨by decide, by decide, by subst_vars; decide, by subst_vars; decide⟩⟩
            · skip
              refine mv_sipush (pc := 60) (v := 259) B d_Book_pair_60 (by decide) ?_
              exact mv_iret (pc := 63) B hr rfl d_Book_pair_63 (Nat.le_refl _) (Nat.le_refl _) ⟨_, rfl, rfl, by first | exact Or.inl rfl | exact Or.inr ⟨by decide, by decide, by subst_vars; decide, by subst_vars; decide⟩⟩
        · skip
          refine mv_iload_n (pc := 38) B d_Book_pair_38 rfl 2 rfl ?_
          refine mv_bipush (pc := 39) (v := 61) B d_Book_pair_39 (by decide) ?_
          refine mv_icmp_ne (pc := 41) (tgt := 48) B d_Book_pair_41 rfl (fun h41 => ?_) (fun h41 => ?_)
          · skip
            refine mv_iload_n (pc := 48) B d_Book_pair_48 rfl 1 rfl ?_
            refine mv_bipush (pc := 49) (v := 60) B d_Book_pair_49 (by decide) ?_
            refine mv_icmp_ne (pc := 51) (tgt := 64) B d_Book_pair_51 rfl (fun h51 => ?_) (fun h51 => ?_)
            · skip
              refine mv_iload_n (pc := 64) B d_Book_pair_64 rfl 1 rfl ?_
              refine mv_bipush (pc := 65) (v := 62) B d_Book_pair_65 (by decide) ?_
              refine mv_icmp_ne (pc := 67) (tgt := 82) B d_Book_pair_67 rfl (fun h67 => ?_) (fun h67 => ?_)
              · skip
                refine mv_iconst (pc := 82) (v := 0) B d_Book_pair_82 (by decide) ?_
                exact mv_iret (pc := 83) B hr rfl d_Book_pair_83 (Nat.le_refl _) (Nat.le_refl _) ⟨_, rfl, rfl, by first | exact Or.inl rfl | exact Or.inr ⟨by decide, by decide, by subst_vars; decide, by subst_vars; decide⟩⟩
              · skip
                refine mv_iload_n (pc := 70) B d_Book_pair_70 rfl 2 rfl ?_
                refine mv_bipush (pc := 71) (v := 62) B d_Book_pair_71 (by decide) ?_
                refine mv_icmp_ne (pc := 73) (tgt := 82) B d_Book_pair_73 rfl (fun h73 => ?_) (fun h73 => ?_)
                · skip
                  refine mv_iconst (pc := 82) (v := 0) B d_Book_pair_82 (by decide) ?_
                  exact mv_iret (pc := 83) B hr rfl d_Book_pair_83 (Nat.le_refl _) (Nat.le_refl _) ⟨_, rfl, rfl, by first | exact Or.inl rfl | exact Or.inr ⟨by decide, by decide, by subst_vars; decide, by subst_vars; decide⟩⟩
                · skip
                  refine mv_sipush (pc := 76) (v := 260) B d_Book_pair_76 (by decide) ?_
                  refine mv_goto (pc := 79) (tgt := 83) B d_Book_pair_79 rfl ?_
                  exact mv_iret (pc := 83) B hr rfl d_Book_pair_83 (Nat.le_refl _) (Nat.le_refl _) ⟨_, rfl, rfl, by first | exact Or.inl rfl | exact Or.inr ⟨by decide, by decide, by subst_vars; decide, by subst_vars; decide⟩⟩
            · skip
              refine mv_iload_n (pc := 54) B d_Book_pair_54 rfl 2 rfl ?_
              refine mv_bipush (pc := 55) (v := 60) B d_Book_pair_55 (by decide) ?_
              refine mv_icmp_ne (pc := 57) (tgt := 64) B d_Book_pair_57 rfl (fun h57 => ?_) (fun h57 => ?_)
              · skip
                refine mv_iload_n (pc := 64) B d_Book_pair_64 rfl 1 rfl ?_
                refine mv_bipush (pc := 65) (v := 62) B d_Book_pair_65 (by decide) ?_
                refine mv_icmp_ne (pc := 67) (tgt := 82) B d_Book_pair_67 rfl (fun h67 => ?_) (fun h67 => ?_)
                · skip
                  refine mv_iconst (pc := 82) (v := 0) B d_Book_pair_82 (by decide) ?_
                  exact mv_iret (pc := 83) B hr rfl d_Book_pair_83 (Nat.le_refl _) (Nat.le_refl _) ⟨_, rfl, rfl, by first | exact Or.inl rfl | exact Or.inr ⟨by decide, by decide, by subst_vars; decide, by subst_vars; decide⟩⟩
                · skip
                  refine mv_iload_n (pc := 70) B d_Book_pair_70 rfl 2 rfl ?_
                  refine mv_bipush (pc := 71) (v := 62) B d_Book_pair_71 (by decide) ?_
                  refine mv_icmp_ne (pc := 73) (tgt := 82) B d_Book_pair_73 rfl (fun h73 => ?_) (fun h73 => ?_)
                  · skip
                    refine mv_iconst (pc := 82) (v := 0) B d_Book_pair_82 (by decide) ?_
                    exact mv_iret (pc := 83) B hr rfl d_Book_pair_83 (Nat.le_refl _) (Nat.le_refl _) ⟨_, rfl, rfl, by first | exact Or.inl rfl | exact Or.inr ⟨by decide, by decide, by subst_vars; decide, by subst_vars; decide⟩⟩
                  · skip
                    refine mv_sipush (pc := 76) (v := 260) B d_Book_pair_76 (by decide) ?_
                    refine mv_goto (pc := 79) (tgt := 83) B d_Book_pair_79 rfl ?_
                    exact mv_iret (pc := 83) B hr rfl d_Book_pair_83 (Nat.le_refl _) (Nat.le_refl _) ⟨_, rfl, rfl, by first | exact Or.inl rfl | exact Or.inr ⟨by decide, by decide, by subst_vars; decide, by subst_vars; decide⟩⟩
              · skip
                refine mv_sipush (pc := 60) (v := 259) B d_Book_pair_60 (by decide) ?_
                exact mv_iret (pc := 63) B hr rfl d_Book_pair_63 (Nat.le_refl _) (Nat.le_refl _) ⟨_, rfl, rfl, by first | exact Or.inl rfl | exact Or.inr ⟨by decide, by decide, by subst_vars; decide, by subst_vars; decide⟩⟩
          · skip
            refine mv_sipush (pc := 44) (v := 258) B d_Book_pair_44 (by decide) ?_
            exact mv_iret (pc := 47) B hr rfl d_Book_pair_47 (Nat.le_refl _) (Nat.le_refl _) ⟨_, rfl, rfl, by first | exact Or.inl rfl | exact Or.inr ⟨by decide, by decide, by subst_vars; decide, by subst_vars; decide⟩⟩
      · skip
        refine mv_iload_n (pc := 22) B d_Book_pair_22 rfl 2 rfl ?_
        refine mv_bipush (pc := 23) (v := 61) B d_Book_pair_23 (by decide) ?_
        refine mv_icmp_ne (pc := 25) (tgt := 32) B d_Book_pair_25 rfl (fun h25 => ?_) (fun h25 => ?_)
        · skip
          refine mv_iload_n (pc := 32) B d_Book_pair_32 rfl 1 rfl ?_
          refine mv_bipush (pc := 33) (v := 60) B d_Book_pair_33 (by decide) ?_
          refine mv_icmp_ne (pc := 35) (tgt := 48) B d_Book_pair_35 rfl (fun h35 => ?_) (fun h35 => ?_)
          · skip
            refine mv_iload_n (pc := 48) B d_Book_pair_48 rfl 1 rfl ?_
            refine mv_bipush (pc := 49) (v := 60) B d_Book_pair_49 (by decide) ?_
            refine mv_icmp_ne (pc := 51) (tgt := 64) B d_Book_pair_51 rfl (fun h51 => ?_) (fun h51 => ?_)
            · skip
              refine mv_iload_n (pc := 64) B d_Book_pair_64 rfl 1 rfl ?_
              refine mv_bipush (pc := 65) (v := 62) B d_Book_pair_65 (by decide) ?_
              refine mv_icmp_ne (pc := 67) (tgt := 82) B d_Book_pair_67 rfl (fun h67 => ?_) (fun h67 => ?_)
              · skip
                refine mv_iconst (pc := 82) (v := 0) B d_Book_pair_82 (by decide) ?_
                exact mv_iret (pc := 83) B hr rfl d_Book_pair_83 (Nat.le_refl _) (Nat.le_refl _) ⟨_, rfl, rfl, by first | exact Or.inl rfl | exact Or.inr ⟨by decide, by decide, by subst_vars; decide, by subst_vars; decide⟩⟩
              · skip
                refine mv_iload_n (pc := 70) B d_Book_pair_70 rfl 2 rfl ?_
                refine mv_bipush (pc := 71) (v := 62) B d_Book_pair_71 (by decide) ?_
                refine mv_icmp_ne (pc := 73) (tgt := 82) B d_Book_pair_73 rfl (fun h73 => ?_) (fun h73 => ?_)
                · skip
                  refine mv_iconst (pc := 82) (v := 0) B d_Book_pair_82 (by decide) ?_
                  exact mv_iret (pc := 83) B hr rfl d_Book_pair_83 (Nat.le_refl _) (Nat.le_refl _) ⟨_, rfl, rfl, by first | exact Or.inl rfl | exact Or.inr ⟨by decide, by decide, by subst_vars; decide, by subst_vars; decide⟩⟩
                · skip
                  refine mv_sipush (pc := 76) (v := 260) B d_Book_pair_76 (by decide) ?_
                  refine mv_goto (pc := 79) (tgt := 83) B d_Book_pair_79 rfl ?_
                  exact mv_iret (pc := 83) B hr rfl d_Book_pair_83 (Nat.le_refl _) (Nat.le_refl _) ⟨_, rfl, rfl, by first | exact Or.inl rfl | exact Or.inr ⟨by decide, by decide, by subst_vars; decide, by subst_vars; decide⟩⟩
            · skip
              refine mv_iload_n (pc := 54) B d_Book_pair_54 rfl 2 rfl ?_
              refine mv_bipush (pc := 55) (v := 60) B d_Book_pair_55 (by decide) ?_
              refine mv_icmp_ne (pc := 57) (tgt := 64) B d_Book_pair_57 rfl (fun h57 => ?_) (fun h57 => ?_)
              · skip
                refine mv_iload_n (pc := 64) B d_Book_pair_64 rfl 1 rfl ?_
                refine mv_bipush (pc := 65) (v := 62) B d_Book_pair_65 (by decide) ?_
                refine mv_icmp_ne (pc := 67) (tgt := 82) B d_Book_pair_67 rfl (fun h67 => ?_) (fun h67 => ?_)
                · skip
                  refine mv_iconst (pc := 82) (v := 0) B d_Book_pair_82 (by decide) ?_
                  exact mv_iret (pc := 83) B hr rfl d_Book_pair_83 (Nat.le_refl _) (Nat.le_refl _) ⟨_, rfl, rfl, by first | exact Or.inl rfl | exact Or.inr ⟨by decide, by decide, by subst_vars; decide, by subst_vars; decide⟩⟩
                · skip
                  refine mv_iload_n (pc := 70) B d_Book_pair_70 rfl 2 rfl ?_
                  refine mv_bipush (pc := 71) (v := 62) B d_Book_pair_71 (by decide) ?_
                  refine mv_icmp_ne (pc := 73) (tgt := 82) B d_Book_pair_73 rfl (fun h73 => ?_) (fun h73 => ?_)
                  · skip
                    refine mv_iconst (pc := 82) (v := 0) B d_Book_pair_82 (by decide) ?_
                    exact mv_iret (pc := 83) B hr rfl d_Book_pair_83 (Nat.le_refl _) (Nat.le_refl _) ⟨_, rfl, rfl, by first | exact Or.inl rfl | exact Or.inr ⟨by decide, by decide, by subst_vars; decide, by subst_vars; decide⟩⟩
                  · skip
                    refine mv_sipush (pc := 76) (v := 260) B d_Book_pair_76 (by decide) ?_
                    refine mv_goto (pc := 79) (tgt := 83) B d_Book_pair_79 rfl ?_
                    exact mv_iret (pc := 83) B hr rfl d_Book_pair_83 (Nat.le_refl _) (Nat.le_refl _) ⟨_, rfl, rfl, by first | exact Or.inl rfl | exact Or.inr ⟨by decide, by decide, by subst_vars; decide, by subst_vars; decide⟩⟩
              · skip
                refine mv_sipush (pc := 60) (v := 259) B d_Book_pair_60 (by decide) ?_
                exact mv_iret (pc := 63) B hr rfl d_Book_pair_63 (Nat.le_refl _) (Nat.le_refl _) ⟨_, rfl, rfl, by first | exact Or.inl rfl | exact Or.inr ⟨by decide, by decide, by subst_vars; decide, by subst_vars; decide⟩⟩
          · skip
            refine mv_iload_n (pc := 38) B d_Book_pair_38 rfl 2 rfl ?_
            refine mv_bipush (pc := 39) (v := 61) B d_Book_pair_39 (by decide) ?_
            refine mv_icmp_ne (pc := 41) (tgt := 48) B d_Book_pair_41 rfl (fun h41 => ?_) (fun h41 => ?_)
            · skip
              refine mv_iload_n (pc := 48) B d_Book_pair_48 rfl 1 rfl ?_
              refine mv_bipush (pc := 49) (v := 60) B d_Book_pair_49 (by decide) ?_
              refine mv_icmp_ne (pc := 51) (tgt := 64) B d_Book_pair_51 rfl (fun h51 => ?_) (fun h51 => ?_)
              · skip
                refine mv_iload_n (pc := 64) B d_Book_pair_64 rfl 1 rfl ?_
                refine mv_bipush (pc := 65) (v := 62) B d_Book_pair_65 (by decide) ?_
                refine mv_icmp_ne (pc := 67) (tgt := 82) B d_Book_pair_67 rfl (fun h67 => ?_) (fun h67 => ?_)
                · skip
                  refine mv_iconst (pc := 82) (v := 0) B d_Book_pair_82 (by decide) ?_
                  exact mv_iret (pc := 83) B hr rfl d_Book_pair_83 (Nat.le_refl _) (Nat.le_refl _) ⟨_, rfl, rfl, by first | exact Or.inl rfl | exact Or.inr ⟨by decide, by decide, by subst_vars; decide, by subst_vars; decide⟩⟩
                · skip
                  refine mv_iload_n (pc := 70) B d_Book_pair_70 rfl 2 rfl ?_
                  refine mv_bipush (pc := 71) (v := 62) B d_Book_pair_71 (by decide) ?_
                  refine mv_icmp_ne (pc := 73) (tgt := 82) B d_Book_pair_73 rfl (fun h73 => ?_) (fun h73 => ?_)
                  · skip
                    refine mv_iconst (pc := 82) (v := 0) B d_Book_pair_82 (by decide) ?_
                    exact mv_iret (pc := 83) B hr rfl d_Book_pair_83 (Nat.le_refl _) (Nat.le_refl _) ⟨_, rfl, rfl, by first | exact Or.inl rfl | exact Or.inr ⟨by decide, by decide, by subst_vars; decide, by subst_vars; decide⟩⟩
                  · skip
                    refine mv_sipush (pc := 76) (v := 260) B d_Book_pair_76 (by decide) ?_
                    refine mv_goto (pc := 79) (tgt := 83) B d_Book_pair_79 rfl ?_
                    exact mv_iret (pc := 83) B hr rfl d_Book_pair_83 (Nat.le_refl _) (Nat.le_refl _) ⟨_, rfl, rfl, by first | exact Or.inl rfl | exact Or.inr ⟨by decide, by decide, by subst_vars; decide, by subst_vars; decide⟩⟩
              · skip
                refine mv_iload_n (pc := 54) B d_Book_pair_54 rfl 2 rfl ?_
                refine mv_bipush (pc := 55) (v := 60) B d_Book_pair_55 (by decide) ?_
                refine mv_icmp_ne (pc := 57) (tgt := 64) B d_Book_pair_57 rfl (fun h57 => ?_) (fun h57 => ?_)
                · skip
                  refine mv_iload_n (pc := 64) B d_Book_pair_64 rfl 1 rfl ?_
                  refine mv_bipush (pc := 65) (v := 62) B d_Book_pair_65 (by decide) ?_
                  refine mv_icmp_ne (pc := 67) (tgt := 82) B d_Book_pair_67 rfl (fun h67 => ?_) (fun h67 => ?_)
                  · skip
                    refine mv_iconst (pc := 82) (v := 0) B d_Book_pair_82 (by decide) ?_
                    exact mv_iret (pc := 83) B hr rfl d_Book_pair_83 (Nat.le_refl _) (Nat.le_refl _) ⟨_, rfl, rfl, by first | exact Or.inl rfl | exact Or.inr ⟨by decide, by decide, by subst_vars; decide, by subst_vars; decide⟩⟩
                  · skip
                    refine mv_iload_n (pc := 70) B d_Book_pair_70 rfl 2 rfl ?_
                    refine mv_bipush (pc := 71) (v := 62) B d_Book_pair_71 (by decide) ?_
                    refine mv_icmp_ne (pc := 73) (tgt := 82) B d_Book_pair_73 rfl (fun h73 => ?_) (fun h73 => ?_)
                    · skip
                      refine mv_iconst (pc := 82) (v := 0) B d_Book_pair_82 (by decide) ?_
                      exact mv_iret (pc := 83) B hr rfl d_Book_pair_83 (Nat.le_refl _) (Nat.le_refl _) ⟨_, rfl, rfl, by first | exact Or.inl rfl | exact Or.inr ⟨by decide, by decide, by subst_vars; decide, by subst_vars; decide⟩⟩
                    · skip
                      refine mv_sipush (pc := 76) (v := 260) B d_Book_pair_76 (by decide) ?_
                      refine mv_goto (pc := 79) (tgt := 83) B d_Book_pair_79 rfl ?_
                      exact mv_iret (pc := 83) B hr rfl d_Book_pair_83 (Nat.le_refl _) (Nat.le_refl _) ⟨_, rfl, rfl, by first | exact Or.inl rfl | exact Or.inr ⟨by decide, by decide, by subst_vars; decide, by subst_vars; decide⟩⟩
                · skip
                  refine mv_sipush (pc := 60) (v := 259) B d_Book_pair_60 (by decide) ?_
                  exact mv_iret (pc := 63) B hr rfl d_Book_pair_63 (Nat.le_refl _) (Nat.le_refl _) ⟨_, rfl, rfl, by first | exact Or.inl rfl | exact Or.inr ⟨by decide, by decide, by subst_vars; decide, by subst_vars; decide⟩⟩
            · skip
              refine mv_sipush (pc := 44) (v := 258) B d_Book_pair_44 (by decide) ?_
              exact mv_iret (pc := 47) B hr rfl d_Book_pair_47 (Nat.le_refl _) (Nat.le_refl _) ⟨_, rfl, rfl, by first | exact Or.inl rfl | exact Or.inr ⟨by decide, by decide, by subst_vars; decide, by subst_vars; decide⟩⟩
        · skip
          refine mv_sipush (pc := 28) (v := 257) B d_Book_pair_28 (by decide) ?_
          exact mv_iret (pc := 31) B hr rfl d_Book_pair_31 (Nat.le_refl _) (Nat.le_refl _) ⟨_, rfl, rfl, by first | exact Or.inl rfl | exact Or.inr ⟨by decide, by decide, by subst_vars; decide, by subst_vars; decide⟩⟩
    · skip
      refine mv_sipush (pc := 12) (v := 256) B d_Book_pair_12 (by decide) ?_
      exact mv_iret (pc := 15) B hr rfl d_Book_pair_15 (Nat.le_refl _) (Nat.le_refl _) ⟨_, rfl, rfl, by first | exact Or.inl rfl | exact Or.inr ⟨by decide, by decide, by subst_vars; decide, by subst_vars; decide⟩⟩
def y_Book_wrongAt : MethodName := ⟨"MachineLoomModel$Book", "wrongAt", "(I)LMachineLoomModel$Book$Wrong;"⟩
abbrev b_Book_wrongAt : ByteArray := prog_15_method_2_code
theorem kc_Book_wrongAt : Cond.code y_Book_wrongAt b_Book_wrongAt 2 (Option.some (Jvm.ClassFile.FieldType.object "MachineLoomModel$Book$Wrong")) ∈ ma := ma_of (tb_9 _ (List.mem_of_getElem? (i := 237) rfl)) rfl
theorem k_1843 : (Jvm.Cond.fieldLink "MachineLoomModel$Book" (10 : Nat) "MachineLoomModel$Book" "wrong" "LMachineLoomModel$Book$Wrong;") ∈ ma := ma_of (tb_8 _ (List.mem_of_getElem? (i := 163) rfl)) rfl
theorem k_1835 : (Jvm.Cond.fieldLink "MachineLoomModel$Book" (129 : Nat) "MachineLoomModel$Book$Wrong" "place" "I") ∈ ma := ma_of (tb_8 _ (List.mem_of_getElem? (i := 155) rfl)) rfl
theorem d_Book_wrongAt_0 : decode b_Book_wrongAt 0 = .ok (.aload_n 0, 1) := by decide +kernel
theorem d_Book_wrongAt_1 : decode b_Book_wrongAt 1 = .ok (.getfield 10, 3) := by decide +kernel
theorem d_Book_wrongAt_4 : decode b_Book_wrongAt 4 = .ok (.iload_n 1, 1) := by decide +kernel
theorem d_Book_wrongAt_5 : decode b_Book_wrongAt 5 = .ok (.putfield 129, 3) := by decide +kernel
theorem d_Book_wrongAt_8 : decode b_Book_wrongAt 8 = .ok (.aload_n 0, 1) := by decide +kernel
theorem d_Book_wrongAt_9 : decode b_Book_wrongAt 9 = .ok (.getfield 10, 3) := by decide +kernel
theorem d_Book_wrongAt_12 : decode b_Book_wrongAt 12 = .ok (.areturn, 1) := by decide +kernel
set_option maxHeartbeats 4000000 in
set_option maxRecDepth 100000 in
theorem c_Book_wrongAt_x (l : Launch) {dA : FieldType → ClassId} {D : va_G} {al : Nat → Nat} {ext : mv_Sh} {sk sv : Nat → Nat} (hi : mv_inj (mg dA D al ext)) (σ : mv_H) (x : Int32) (hR : Br 74 (mv_r σ)) : mv_C l y_Book_wrongAt (Cond.code y_Book_wrongAt b_Book_wrongAt 2 (Option.some (Jvm.ClassFile.FieldType.object "MachineLoomModel$Book$Wrong")) :: ma) ({ frames := 0, cells := 0, slots := 0, locals := 0 }) (mg dA D al ext) (mK sk sv) [.ref (al 74), .int x] σ (mv_Rr (al 107) (fun σ1 => TkB 74 σ σ1 ∧ σ1 = mv_si σ 107 0 x)) := by
  refine mv_C.ofV (cc := b_Book_wrongAt) (nL := 2) (ret := (Option.some (Jvm.ClassFile.FieldType.object "MachineLoomModel$Book$Wrong"))) (by decide +kernel) rfl hi (Nat.le_of_ble_eq_true rfl) ?_
  intro p e s m below meth c B hNs hr hnm hno
  refine mv_aload_n (pc := 0) B d_Book_wrongAt_0 rfl 0 rfl ?_
  refine mv_getR (pc := 1) (ci := 12) (C := R_Book) (T := F_Book) (N := 65) B 0 rfl rfl (by decide) i_Book (B.2.2.2.1 _ k_1843) rfl (hR.1 _ 0 _ rfl) d_Book_wrongAt_1 ?_
  refine mv_iload_n (pc := 4) B d_Book_wrongAt_4 rfl 1 rfl ?_
  refine mv_putI (pc := 5) (ci := 13) (C := R_Wrong) (T := F_Wrong) (N := 1) B 0 rfl rfl (by decide) i_Wrong t_Wrong_ok n_Wrong (B.2.2.2.1 _ k_1835) rfl rfl rfl rfl d_Book_wrongAt_5 ?_
  refine mv_aload_n (pc := 8) B d_Book_wrongAt_8 rfl 0 rfl ?_
  refine mv_getR (pc := 9) (ci := 12) (C := R_Book) (T := F_Book) (N := 65) B 0 rfl rfl (by decide) i_Book (B.2.2.2.1 _ k_1843) rfl (hR.1 _ 0 _ rfl) d_Book_wrongAt_9 ?_
  exact mv_aret (pc := 12) B hr (Or.inl ⟨_, rfl⟩) d_Book_wrongAt_12 (Nat.le_refl _) (Nat.le_refl _) ⟨rfl, TkB.rf.si (Or.inr ⟨rfl, rfl⟩), rfl⟩
set_option maxHeartbeats 4000000 in
set_option maxRecDepth 100000 in
theorem c_Book_wrongAt_y (l : Launch) {dA : FieldType → ClassId} {D : va_G} {al : Nat → Nat} {ext : mv_Sh} {sk sv : Nat → Nat} (hi : mv_inj (mg dA D al ext)) (σ : mv_H) (x : Int32) (hR : Br 108 (mv_r σ)) : mv_C l y_Book_wrongAt (Cond.code y_Book_wrongAt b_Book_wrongAt 2 (Option.some (Jvm.ClassFile.FieldType.object "MachineLoomModel$Book$Wrong")) :: ma) ({ frames := 0, cells := 0, slots := 0, locals := 0 }) (mg dA D al ext) (mK sk sv) [.ref (al 108), .int x] σ (mv_Rr (al 141) (fun σ1 => TkB 108 σ σ1 ∧ σ1 = mv_si σ 141 0 x)) := by
  refine mv_C.ofV (cc := b_Book_wrongAt) (nL := 2) (ret := (Option.some (Jvm.ClassFile.FieldType.object "MachineLoomModel$Book$Wrong"))) (by decide +kernel) rfl hi (Nat.le_of_ble_eq_true rfl) ?_
  intro p e s m below meth c B hNs hr hnm hno
  refine mv_aload_n (pc := 0) B d_Book_wrongAt_0 rfl 0 rfl ?_
  refine mv_getR (pc := 1) (ci := 12) (C := R_Book) (T := F_Book) (N := 65) B 0 rfl rfl (by decide) i_Book (B.2.2.2.1 _ k_1843) rfl (hR.1 _ 0 _ rfl) d_Book_wrongAt_1 ?_
  refine mv_iload_n (pc := 4) B d_Book_wrongAt_4 rfl 1 rfl ?_
  refine mv_putI (pc := 5) (ci := 13) (C := R_Wrong) (T := F_Wrong) (N := 1) B 0 rfl rfl (by decide) i_Wrong t_Wrong_ok n_Wrong (B.2.2.2.1 _ k_1835) rfl rfl rfl rfl d_Book_wrongAt_5 ?_
  refine mv_aload_n (pc := 8) B d_Book_wrongAt_8 rfl 0 rfl ?_
  refine mv_getR (pc := 9) (ci := 12) (C := R_Book) (T := F_Book) (N := 65) B 0 rfl rfl (by decide) i_Book (B.2.2.2.1 _ k_1843) rfl (hR.1 _ 0 _ rfl) d_Book_wrongAt_9 ?_
  exact mv_aret (pc := 12) B hr (Or.inl ⟨_, rfl⟩) d_Book_wrongAt_12 (Nat.le_refl _) (Nat.le_refl _) ⟨rfl, TkB.rf.si (Or.inr ⟨rfl, rfl⟩), rfl⟩
def y_Book_look : MethodName := ⟨"MachineLoomModel$Book", "look", "(I)I"⟩
abbrev b_Book_look : ByteArray := prog_15_method_3_code
theorem kc_Book_look : Cond.code y_Book_look b_Book_look 2 (Option.some Jvm.ClassFile.FieldType.int) ∈ ma := ma_of (tb_9 _ (List.mem_of_getElem? (i := 205) rfl)) rfl
theorem k_1845 : (Jvm.Cond.fieldLink "MachineLoomModel$Book" (132 : Nat) "MachineLoomModel$Book" "size" "I") ∈ ma := ma_of (tb_8 _ (List.mem_of_getElem? (i := 165) rfl)) rfl
theorem k_1844 : (Jvm.Cond.fieldLink "MachineLoomModel$Book" (135 : Nat) "MachineLoomModel$Book" "input" "[B") ∈ ma := ma_of (tb_8 _ (List.mem_of_getElem? (i := 164) rfl)) rfl
theorem d_Book_look_0 : decode b_Book_look 0 = .ok (.iload_n 1, 1) := by decide +kernel
theorem d_Book_look_1 : decode b_Book_look 1 = .ok (.aload_n 0, 1) := by decide +kernel
theorem d_Book_look_2 : decode b_Book_look 2 = .ok (.getfield 132, 3) := by decide +kernel
theorem d_Book_look_5 : decode b_Book_look 5 = .ok (.if_icmp .ge (16), 3) := by decide +kernel
theorem d_Book_look_8 : decode b_Book_look 8 = .ok (.aload_n 0, 1) := by decide +kernel
theorem d_Book_look_9 : decode b_Book_look 9 = .ok (.getfield 135, 3) := by decide +kernel
theorem d_Book_look_12 : decode b_Book_look 12 = .ok (.iload_n 1, 1) := by decide +kernel
theorem d_Book_look_13 : decode b_Book_look 13 = .ok (.baload, 1) := by decide +kernel
theorem d_Book_look_14 : decode b_Book_look 14 = .ok (.sipush 255, 3) := by decide +kernel
theorem d_Book_look_17 : decode b_Book_look 17 = .ok (.iand, 1) := by decide +kernel
theorem d_Book_look_18 : decode b_Book_look 18 = .ok (.goto (4), 3) := by decide +kernel
theorem d_Book_look_21 : decode b_Book_look 21 = .ok (.iconst (-1), 1) := by decide +kernel
theorem d_Book_look_22 : decode b_Book_look 22 = .ok (.ireturn, 1) := by decide +kernel
set_option maxHeartbeats 4000000 in
set_option maxRecDepth 100000 in
theorem c_Book_look_x (l : Launch) {dA : FieldType → ClassId} {D : va_G} {al : Nat → Nat} {ext : mv_Sh} {sk sv : Nat → Nat} (hi : mv_inj (mg dA D al ext)) (σ : mv_H) (i9 : Int32) (len : Nat) (hR : Br 74 (mv_r σ)) (hz : (mv_i σ 74 2).toInt = len) (hl : len ≤ 10240) (hi0 : 0 ≤ i9.toInt) : mv_C l y_Book_look (Cond.code y_Book_look b_Book_look 2 (Option.some Jvm.ClassFile.FieldType.int) :: ma) ({ frames := 0, cells := 0, slots := 0, locals := 0 }) (mg dA D al ext) (mK sk sv) [.ref (al 74), .int i9] σ (mv_Ri (fun v σ1 => σ1 = σ ∧ v = lkv σ len i9 ∧ ((v = -1 ∧ (len : Int) ≤ i9.toInt) ∨ (0 ≤ v.toInt ∧ v.toInt ≤ 255 ∧ i9.toInt < len)))) := by
  refine mv_C.ofV (cc := b_Book_look) (nL := 2) (ret := (Option.some Jvm.ClassFile.FieldType.int)) (by decide +kernel) rfl hi (Nat.le_of_ble_eq_true rfl) ?_
  intro p e s m below meth c B hNs hr hnm hno
  refine mv_iload_n (pc := 0) B d_Book_look_0 rfl 1 rfl ?_
  refine mv_aload_n (pc := 1) B d_Book_look_1 rfl 0 rfl ?_
  refine mv_getI (pc := 2) (ci := 12) (C := R_Book) (T := F_Book) (N := 65) B 2 rfl rfl (by decide) i_Book (B.2.2.2.1 _ k_1845) rfl d_Book_look_2 ?_
  refine mv_icmp_ge (pc := 5) (tgt := 21) B d_Book_look_5 rfl (fun h5 => ?_) (fun h5 => ?_)
  · skip
    rw [Int32.le_iff_toInt_le] at h5
    refine mv_iconst (pc := 21) (v := -1) B d_Book_look_21 (by decide) ?_
    exact mv_iret (pc := 22) B hr rfl d_Book_look_22 (Nat.le_refl _) (Nat.le_refl _) ⟨_, rfl, rfl, by unfold lkv; first | rw [if_pos (by omega)] | rw [if_neg (by omega)], by first | exact Or.inl ⟨rfl, by omega⟩ | exact Or.inr ⟨by rw [and255]; omega, by rw [and255]; omega, by omega⟩⟩
  · skip
    rw [Int32.le_iff_toInt_le] at h5
    refine mv_aload_n (pc := 8) B d_Book_look_8 rfl 0 rfl ?_
    refine mv_getR (pc := 9) (ci := 12) (C := R_Book) (T := F_Book) (N := 65) B 1 rfl rfl (by decide) i_Book (B.2.2.2.1 _ k_1844) rfl hR.2 d_Book_look_9 ?_
    refine mv_iload_n (pc := 12) B d_Book_look_12 rfl 1 rfl ?_
    refine mv_bald (pc := 13) B rfl (i32_in hi0 (show i9.toInt < 32768 by omega)) d_Book_look_13 ?_
    refine mv_sipush (pc := 14) (v := 255) B d_Book_look_14 (by decide) ?_
    refine mv_iand (pc := 17) B d_Book_look_17 ?_
    refine mv_goto (pc := 18) (tgt := 22) B d_Book_look_18 rfl ?_
    exact mv_iret (pc := 22) B hr rfl d_Book_look_22 (Nat.le_refl _) (Nat.le_refl _) ⟨_, rfl, rfl, by unfold lkv; first | rw [if_pos (by omega)] | rw [if_neg (by omega)], by first | exact Or.inl ⟨rfl, by omega⟩ | exact Or.inr ⟨by rw [and255]; omega, by rw [and255]; omega, by omega⟩⟩
set_option maxHeartbeats 4000000 in
set_option maxRecDepth 100000 in
theorem c_Book_look_y (l : Launch) {dA : FieldType → ClassId} {D : va_G} {al : Nat → Nat} {ext : mv_Sh} {sk sv : Nat → Nat} (hi : mv_inj (mg dA D al ext)) (σ : mv_H) (i9 : Int32) (len : Nat) (hR : Br 108 (mv_r σ)) (hz : (mv_i σ 108 2).toInt = len) (hl : len ≤ 10240) (hi0 : 0 ≤ i9.toInt) : mv_C l y_Book_look (Cond.code y_Book_look b_Book_look 2 (Option.some Jvm.ClassFile.FieldType.int) :: ma) ({ frames := 0, cells := 0, slots := 0, locals := 0 }) (mg dA D al ext) (mK sk sv) [.ref (al 108), .int i9] σ (mv_Ri (fun v σ1 => σ1 = σ ∧ v = lkv σ len i9 ∧ ((v = -1 ∧ (len : Int) ≤ i9.toInt) ∨ (0 ≤ v.toInt ∧ v.toInt ≤ 255 ∧ i9.toInt < len)))) := by
  refine mv_C.ofV (cc := b_Book_look) (nL := 2) (ret := (Option.some Jvm.ClassFile.FieldType.int)) (by decide +kernel) rfl hi (Nat.le_of_ble_eq_true rfl) ?_
  intro p e s m below meth c B hNs hr hnm hno
  refine mv_iload_n (pc := 0) B d_Book_look_0 rfl 1 rfl ?_
  refine mv_aload_n (pc := 1) B d_Book_look_1 rfl 0 rfl ?_
  refine mv_getI (pc := 2) (ci := 12) (C := R_Book) (T := F_Book) (N := 65) B 2 rfl rfl (by decide) i_Book (B.2.2.2.1 _ k_1845) rfl d_Book_look_2 ?_
  refine mv_icmp_ge (pc := 5) (tgt := 21) B d_Book_look_5 rfl (fun h5 => ?_) (fun h5 => ?_)
  · skip
    rw [Int32.le_iff_toInt_le] at h5
    refine mv_iconst (pc := 21) (v := -1) B d_Book_look_21 (by decide) ?_
    exact mv_iret (pc := 22) B hr rfl d_Book_look_22 (Nat.le_refl _) (Nat.le_refl _) ⟨_, rfl, rfl, by unfold lkv; first | rw [if_pos (by omega)] | rw [if_neg (by omega)], by first | exact Or.inl ⟨rfl, by omega⟩ | exact Or.inr ⟨by rw [and255]; omega, by rw [and255]; omega, by omega⟩⟩
  · skip
    rw [Int32.le_iff_toInt_le] at h5
    refine mv_aload_n (pc := 8) B d_Book_look_8 rfl 0 rfl ?_
    refine mv_getR (pc := 9) (ci := 12) (C := R_Book) (T := F_Book) (N := 65) B 1 rfl rfl (by decide) i_Book (B.2.2.2.1 _ k_1844) rfl hR.2 d_Book_look_9 ?_
    refine mv_iload_n (pc := 12) B d_Book_look_12 rfl 1 rfl ?_
    refine mv_bald (pc := 13) B rfl (i32_in hi0 (show i9.toInt < 32768 by omega)) d_Book_look_13 ?_
    refine mv_sipush (pc := 14) (v := 255) B d_Book_look_14 (by decide) ?_
    refine mv_iand (pc := 17) B d_Book_look_17 ?_
    refine mv_goto (pc := 18) (tgt := 22) B d_Book_look_18 rfl ?_
    exact mv_iret (pc := 22) B hr rfl d_Book_look_22 (Nat.le_refl _) (Nat.le_refl _) ⟨_, rfl, rfl, by unfold lkv; first | rw [if_pos (by omega)] | rw [if_neg (by omega)], by first | exact Or.inl ⟨rfl, by omega⟩ | exact Or.inr ⟨by rw [and255]; omega, by rw [and255]; omega, by omega⟩⟩
def y_Book_skip : MethodName := ⟨"MachineLoomModel$Book", "skip", "()V"⟩
abbrev b_Book_skip : ByteArray := prog_15_method_7_code
theorem kc_Book_skip : Cond.code y_Book_skip b_Book_skip 2 (Option.none : Option Jvm.ClassFile.FieldType) ∈ ma := ma_of (tb_9 _ (List.mem_of_getElem? (i := 201) rfl)) rfl
theorem k_1846 : (Jvm.Cond.fieldLink "MachineLoomModel$Book" (142 : Nat) "MachineLoomModel$Book" "at" "I") ∈ ma := ma_of (tb_8 _ (List.mem_of_getElem? (i := 166) rfl)) rfl
theorem k_2122 : (Jvm.Cond.methodLink "MachineLoomModel$Book" (145 : Nat) ({ cls := "MachineLoomModel$Book", name := "look", desc := "(I)I" } : Jvm.MethodName)) ∈ ma := ma_of (tb_9 _ (List.mem_of_getElem? (i := 202) rfl)) rfl
theorem k_2124 : (Jvm.Cond.instanceMethod ({ cls := "MachineLoomModel$Book", name := "look", desc := "(I)I" } : Jvm.MethodName)) ∈ ma := ma_of (tb_9 _ (List.mem_of_getElem? (i := 204) rfl)) rfl
theorem ks_82 : Cond.selects "MachineLoomModel$Book" ⟨"MachineLoomModel$Book", "look", "(I)I"⟩ ⟨"MachineLoomModel$Book", "look", "(I)I"⟩ ∈ ma := ma_sel 82 rfl rfl
theorem d_Book_skip_0 : decode b_Book_skip 0 = .ok (.aload_n 0, 1) := by decide +kernel
theorem d_Book_skip_1 : decode b_Book_skip 1 = .ok (.getfield 142, 3) := by decide +kernel
theorem d_Book_skip_4 : decode b_Book_skip 4 = .ok (.aload_n 0, 1) := by decide +kernel
theorem d_Book_skip_5 : decode b_Book_skip 5 = .ok (.getfield 132, 3) := by decide +kernel
theorem d_Book_skip_8 : decode b_Book_skip 8 = .ok (.if_icmp .ge (96), 3) := by decide +kernel
theorem d_Book_skip_11 : decode b_Book_skip 11 = .ok (.aload_n 0, 1) := by decide +kernel
theorem d_Book_skip_12 : decode b_Book_skip 12 = .ok (.aload_n 0, 1) := by decide +kernel
theorem d_Book_skip_13 : decode b_Book_skip 13 = .ok (.getfield 142, 3) := by decide +kernel
theorem d_Book_skip_16 : decode b_Book_skip 16 = .ok (.invokevirtual 145, 3) := by decide +kernel
theorem d_Book_skip_19 : decode b_Book_skip 19 = .ok (.istore_n 1, 1) := by decide +kernel
theorem d_Book_skip_20 : decode b_Book_skip 20 = .ok (.iload_n 1, 1) := by decide +kernel
theorem d_Book_skip_21 : decode b_Book_skip 21 = .ok (.bipush 35, 2) := by decide +kernel
theorem d_Book_skip_23 : decode b_Book_skip 23 = .ok (.if_icmp .ne (40), 3) := by decide +kernel
theorem d_Book_skip_26 : decode b_Book_skip 26 = .ok (.aload_n 0, 1) := by decide +kernel
theorem d_Book_skip_27 : decode b_Book_skip 27 = .ok (.getfield 142, 3) := by decide +kernel
theorem d_Book_skip_30 : decode b_Book_skip 30 = .ok (.aload_n 0, 1) := by decide +kernel
theorem d_Book_skip_31 : decode b_Book_skip 31 = .ok (.getfield 132, 3) := by decide +kernel
theorem d_Book_skip_34 : decode b_Book_skip 34 = .ok (.if_icmp .ge (67), 3) := by decide +kernel
theorem d_Book_skip_37 : decode b_Book_skip 37 = .ok (.aload_n 0, 1) := by decide +kernel
theorem d_Book_skip_38 : decode b_Book_skip 38 = .ok (.aload_n 0, 1) := by decide +kernel
theorem d_Book_skip_39 : decode b_Book_skip 39 = .ok (.getfield 142, 3) := by decide +kernel
theorem d_Book_skip_42 : decode b_Book_skip 42 = .ok (.invokevirtual 145, 3) := by decide +kernel
theorem d_Book_skip_45 : decode b_Book_skip 45 = .ok (.bipush 10, 2) := by decide +kernel
theorem d_Book_skip_47 : decode b_Book_skip 47 = .ok (.if_icmp .eq (54), 3) := by decide +kernel
theorem d_Book_skip_50 : decode b_Book_skip 50 = .ok (.aload_n 0, 1) := by decide +kernel
theorem d_Book_skip_51 : decode b_Book_skip 51 = .ok (.dup, 1) := by decide +kernel
theorem d_Book_skip_52 : decode b_Book_skip 52 = .ok (.getfield 142, 3) := by decide +kernel
theorem d_Book_skip_55 : decode b_Book_skip 55 = .ok (.iconst 1, 1) := by decide +kernel
theorem d_Book_skip_56 : decode b_Book_skip 56 = .ok (.iadd, 1) := by decide +kernel
theorem d_Book_skip_57 : decode b_Book_skip 57 = .ok (.putfield 142, 3) := by decide +kernel
theorem d_Book_skip_60 : decode b_Book_skip 60 = .ok (.goto (-34), 3) := by decide +kernel
theorem d_Book_skip_63 : decode b_Book_skip 63 = .ok (.iload_n 1, 1) := by decide +kernel
theorem d_Book_skip_64 : decode b_Book_skip 64 = .ok (.bipush 9, 2) := by decide +kernel
theorem d_Book_skip_66 : decode b_Book_skip 66 = .ok (.if_icmp .eq (21), 3) := by decide +kernel
theorem d_Book_skip_69 : decode b_Book_skip 69 = .ok (.iload_n 1, 1) := by decide +kernel
theorem d_Book_skip_70 : decode b_Book_skip 70 = .ok (.bipush 10, 2) := by decide +kernel
theorem d_Book_skip_72 : decode b_Book_skip 72 = .ok (.if_icmp .eq (15), 3) := by decide +kernel
theorem d_Book_skip_75 : decode b_Book_skip 75 = .ok (.iload_n 1, 1) := by decide +kernel
theorem d_Book_skip_76 : decode b_Book_skip 76 = .ok (.bipush 13, 2) := by decide +kernel
theorem d_Book_skip_78 : decode b_Book_skip 78 = .ok (.if_icmp .eq (9), 3) := by decide +kernel
theorem d_Book_skip_81 : decode b_Book_skip 81 = .ok (.iload_n 1, 1) := by decide +kernel
theorem d_Book_skip_82 : decode b_Book_skip 82 = .ok (.bipush 32, 2) := by decide +kernel
theorem d_Book_skip_84 : decode b_Book_skip 84 = .ok (.if_icmp .ne (16), 3) := by decide +kernel
theorem d_Book_skip_87 : decode b_Book_skip 87 = .ok (.aload_n 0, 1) := by decide +kernel
theorem d_Book_skip_88 : decode b_Book_skip 88 = .ok (.dup, 1) := by decide +kernel
theorem d_Book_skip_89 : decode b_Book_skip 89 = .ok (.getfield 142, 3) := by decide +kernel
theorem d_Book_skip_92 : decode b_Book_skip 92 = .ok (.iconst 1, 1) := by decide +kernel
theorem d_Book_skip_93 : decode b_Book_skip 93 = .ok (.iadd, 1) := by decide +kernel
theorem d_Book_skip_94 : decode b_Book_skip 94 = .ok (.putfield 142, 3) := by decide +kernel
theorem d_Book_skip_97 : decode b_Book_skip 97 = .ok (.goto (4), 3) := by decide +kernel
theorem d_Book_skip_100 : decode b_Book_skip 100 = .ok (.return_, 1) := by decide +kernel
theorem d_Book_skip_101 : decode b_Book_skip 101 = .ok (.goto (-101), 3) := by decide +kernel
theorem d_Book_skip_104 : decode b_Book_skip 104 = .ok (.return_, 1) := by decide +kernel
set_option maxHeartbeats 4000000 in
set_option maxRecDepth 100000 in
theorem c_Book_skip_x (l : Launch) {dA : FieldType → ClassId} {D : va_G} {al : Nat → Nat} {ext : mv_Sh} {sk sv : Nat → Nat} (hi : mv_inj (mg dA D al ext)) (σ : mv_H) (len a0 : Nat) (hA0 : Ta 74 len σ σ a0) : mv_C l y_Book_skip (Cond.code y_Book_skip b_Book_skip 2 (Option.none : Option Jvm.ClassFile.FieldType) :: ma) ({ frames := 1, cells := 0, slots := 0, locals := 21 }) (mg dA D al ext) (mK sk sv) [.ref (al 74)] σ (mv_Rv (fun σ1 => ∃ a1, Ta 74 len σ σ1 a1 ∧ a0 ≤ a1)) := by
  refine mv_C.ofV (cc := b_Book_skip) (nL := 2) (ret := (Option.none : Option Jvm.ClassFile.FieldType)) (by decide +kernel) rfl hi (Nat.le_of_ble_eq_true rfl) ?_
  intro p e s m below meth c B hNs hr hnm hno
  have hR := hA0.2.1
  have inn : ∀ (b9 : Nat) (hd : ∀ (τ : mv_H) (a9 : Nat), b9 ≤ a9 → Ta 74 len σ τ a9 → mv_V p l e ({ frames := 1, cells := 0, slots := 0, locals := 21 }) s m ([.ref (al 74)] : List Value).toArray below meth c (mg dA D al ext) 2 0 0 (mv_Q (mg dA D al ext) below s 0 0 (mv_Rv (fun σ1 => ∃ a1, Ta 74 len σ σ1 a1 ∧ a0 ≤ a1))) τ 0 [(0, .ref (al 74))] []) (τ : mv_H) (a9 : Nat) (c9 : Int32), b9 ≤ a9 + 1 → (a9 + 1 = b9 → lkv τ len (mv_i τ 74 3) = 35 ∧ a9 < len) → Ta 74 len σ τ a9 → mv_V p l e ({ frames := 1, cells := 0, slots := 0, locals := 21 }) s m ([.ref (al 74)] : List Value).toArray below meth c (mg dA D al ext) 2 0 0 (mv_Q (mg dA D al ext) below s 0 0 (mv_Rv (fun σ1 => ∃ a1, Ta 74 len σ σ1 a1 ∧ a0 ≤ a1))) τ 26 [(0, .ref (al 74)), (1, .int c9)] [] := by
    intro b9 hd
    have lq : ∀ (nn : Nat) (τ : mv_H) (a9 : Nat) (c9 : Int32) (ha : b9 ≤ a9 + 1) (hp : a9 + 1 = b9 → lkv τ len (mv_i τ 74 3) = 35 ∧ a9 < len) (hA : Ta 74 len σ τ a9), len - a9 < nn → mv_V p l e ({ frames := 1, cells := 0, slots := 0, locals := 21 }) s m ([.ref (al 74)] : List Value).toArray below meth c (mg dA D al ext) 2 0 0 (mv_Q (mg dA D al ext) below s 0 0 (mv_Rv (fun σ1 => ∃ a1, Ta 74 len σ σ1 a1 ∧ a0 ≤ a1))) τ 26 [(0, .ref (al 74)), (1, .int c9)] [] := by
      intro nn
      induction nn with
      | zero => intro τ a9 c9 ha hp hA hm; exact absurd hm (Nat.not_lt_zero _)
      | succ nn ih =>
        intro τ a9 c9 ha hp hA hm
        refine mv_aload_n (pc := 26) B d_Book_skip_26 rfl 0 rfl ?_
        refine mv_getI (pc := 27) (ci := 12) (C := R_Book) (T := F_Book) (N := 65) B 3 rfl rfl (by decide) i_Book (B.2.2.2.1 _ k_1846) rfl d_Book_skip_27 ?_
        refine mv_aload_n (pc := 30) B d_Book_skip_30 rfl 0 rfl ?_
        refine mv_getI (pc := 31) (ci := 12) (C := R_Book) (T := F_Book) (N := 65) B 2 rfl rfl (by decide) i_Book (B.2.2.2.1 _ k_1845) rfl d_Book_skip_31 ?_
        refine mv_icmp_ge (pc := 34) (tgt := 101) B d_Book_skip_34 rfl (fun h34 => ?_) (fun h34 => ?_)
        · skip
          have hx : b9 ≤ a9 := Decidable.byContradiction fun z => by have q := (hp (by omega)).2; have z2 := Int32.le_iff_toInt_le.mp h34; have := hA.2.2.2.1; have := hA.2.2.1; omega
          refine mv_lpick [0] rfl ?_
          refine mv_goto (pc := 101) (tgt := 0) B d_Book_skip_101 rfl ?_
          exact hd _ _ hx hA
        · skip
          have hlt : a9 < len := by have z : ¬ (mv_i τ 74 2).toInt ≤ (mv_i τ 74 3).toInt := fun z => h34 (Int32.le_iff_toInt_le.mpr z); have := hA.2.2.2.1; have := hA.2.2.1; omega
          refine mv_aload_n (pc := 37) B d_Book_skip_37 rfl 0 rfl ?_
          refine mv_aload_n (pc := 38) B d_Book_skip_38 rfl 0 rfl ?_
          refine mv_getI (pc := 39) (ci := 12) (C := R_Book) (T := F_Book) (N := 65) B 3 rfl rfl (by decide) i_Book (B.2.2.2.1 _ k_1846) rfl d_Book_skip_39 ?_
          refine mv_callVi (pc := 42) (n := 1) (ci := 12) (C := R_Book) B (mK_ok sk sv) hNs rfl rfl (c_Book_look_x l hi _ _ len hA.2.1 hA.2.2.1 hA.2.2.2.2.2 (by have := hA.2.2.2.1; omega)) rfl (ma_goodc kc_Book_look) (B.2.2.2.1 _ k_2122) (B.2.2.2.1 _ k_2124) (B.2.2.2.1 _ ks_82) (B.2.2.2.1 _ k_13) ⟨by decide +kernel, by decide +kernel, by decide +kernel⟩ rfl d_Book_skip_42 rfl (Nat.le_of_ble_eq_true rfl) ⟨by decide, by decide⟩ ⟨by decide, by decide⟩ ⟨by decide, by decide⟩ (mv_noH hno _) (fun v42 σ42 h42 => ?_)
          obtain ⟨e42, w42, z42⟩ := h42
          have e42 := e42.symm
          subst e42
          refine mv_bipush (pc := 45) (v := 10) B d_Book_skip_45 (by decide) ?_
          refine mv_icmp_eq (pc := 47) (tgt := 101) B d_Book_skip_47 rfl (fun h47 => ?_) (fun h47 => ?_)
          · skip
            have hx : b9 ≤ a9 := Decidable.byContradiction fun z => by have q := (hp (by omega)).1; rw [← w42, h47] at q; exact absurd q (by decide)
            refine mv_lpick [0] rfl ?_
            refine mv_goto (pc := 101) (tgt := 0) B d_Book_skip_101 rfl ?_
            exact hd _ _ hx hA
          · skip
            refine mv_aload_n (pc := 50) B d_Book_skip_50 rfl 0 rfl ?_
            refine mv_dup (pc := 51) B d_Book_skip_51 rfl ?_
            refine mv_getI (pc := 52) (ci := 12) (C := R_Book) (T := F_Book) (N := 65) B 3 rfl rfl (by decide) i_Book (B.2.2.2.1 _ k_1846) rfl d_Book_skip_52 ?_
            refine mv_iconst (pc := 55) (v := 1) B d_Book_skip_55 (by decide) ?_
            refine mv_iadd (pc := 56) B d_Book_skip_56 ?_
            refine mv_putI (pc := 57) (ci := 12) (C := R_Book) (T := F_Book) (N := 65) B 3 rfl rfl (by decide) i_Book t_Book_ok n_Book (B.2.2.2.1 _ k_1846) rfl rfl rfl rfl d_Book_skip_57 ?_
            refine mv_gen (fun S60 eS60 => ?_)
            have hA : Ta 74 len σ S60 (a9 + 1) := by rw [eS60]; exact hA.inc hlt
            have go := ih S60 (a9 + 1) c9 (by omega) (fun z => absurd z (by omega)) hA (by omega)
            clear eS60
            refine mv_goto (pc := 60) (tgt := 26) B d_Book_skip_60 rfl ?_
            refine mv_lpick [0, 1] rfl ?_
            exact go
    intro τ a9 c9 ha hp hA
    exact lq _ τ a9 c9 ha hp hA (Nat.lt_succ_self _)
  have lp : ∀ (nn : Nat) (τ : mv_H) (a9 : Nat) (ha : a0 ≤ a9) (hA : Ta 74 len σ τ a9), len - a9 < nn → mv_V p l e ({ frames := 1, cells := 0, slots := 0, locals := 21 }) s m ([.ref (al 74)] : List Value).toArray below meth c (mg dA D al ext) 2 0 0 (mv_Q (mg dA D al ext) below s 0 0 (mv_Rv (fun σ1 => ∃ a1, Ta 74 len σ σ1 a1 ∧ a0 ≤ a1))) τ 0 [(0, .ref (al 74))] [] := by
    intro nn
    induction nn with
    | zero => intro τ a9 ha hA hm; exact absurd hm (Nat.not_lt_zero _)
    | succ nn ih =>
      intro τ a9 ha hA hm
      refine mv_aload_n (pc := 0) B d_Book_skip_0 rfl 0 rfl ?_
      refine mv_getI (pc := 1) (ci := 12) (C := R_Book) (T := F_Book) (N := 65) B 3 rfl rfl (by decide) i_Book (B.2.2.2.1 _ k_1846) rfl d_Book_skip_1 ?_
      refine mv_aload_n (pc := 4) B d_Book_skip_4 rfl 0 rfl ?_
      refine mv_getI (pc := 5) (ci := 12) (C := R_Book) (T := F_Book) (N := 65) B 2 rfl rfl (by decide) i_Book (B.2.2.2.1 _ k_1845) rfl d_Book_skip_5 ?_
      refine mv_icmp_ge (pc := 8) (tgt := 104) B d_Book_skip_8 rfl (fun h8 => ?_) (fun h8 => ?_)
      · skip
        exact mv_vret (pc := 104) B hr d_Book_skip_104 (Nat.le_refl _) (Nat.le_refl _) ⟨rfl, a9, hA, ha⟩
      · skip
        have hlt : a9 < len := by have z : ¬ (mv_i τ 74 2).toInt ≤ (mv_i τ 74 3).toInt := fun z => h8 (Int32.le_iff_toInt_le.mpr z); have := hA.2.2.2.1; have := hA.2.2.1; omega
        refine mv_aload_n (pc := 11) B d_Book_skip_11 rfl 0 rfl ?_
        refine mv_aload_n (pc := 12) B d_Book_skip_12 rfl 0 rfl ?_
        refine mv_getI (pc := 13) (ci := 12) (C := R_Book) (T := F_Book) (N := 65) B 3 rfl rfl (by decide) i_Book (B.2.2.2.1 _ k_1846) rfl d_Book_skip_13 ?_
        refine mv_callVi (pc := 16) (n := 1) (ci := 12) (C := R_Book) B (mK_ok sk sv) hNs rfl rfl (c_Book_look_x l hi _ _ len hA.2.1 hA.2.2.1 hA.2.2.2.2.2 (by have := hA.2.2.2.1; omega)) rfl (ma_goodc kc_Book_look) (B.2.2.2.1 _ k_2122) (B.2.2.2.1 _ k_2124) (B.2.2.2.1 _ ks_82) (B.2.2.2.1 _ k_13) ⟨by decide +kernel, by decide +kernel, by decide +kernel⟩ rfl d_Book_skip_16 rfl (Nat.le_of_ble_eq_true rfl) ⟨by decide, by decide⟩ ⟨by decide, by decide⟩ ⟨by decide, by decide⟩ (mv_noH hno _) (fun v16 σ16 h16 => ?_)
        obtain ⟨e16, w16, z16⟩ := h16
        have e16 := e16.symm
        subst e16
        refine mv_istore_n (pc := 19) B d_Book_skip_19 rfl (by decide) rfl ?_
        refine mv_iload_n (pc := 20) B d_Book_skip_20 rfl 0 rfl ?_
        refine mv_bipush (pc := 21) (v := 35) B d_Book_skip_21 (by decide) ?_
        refine mv_icmp_ne (pc := 23) (tgt := 63) B d_Book_skip_23 rfl (fun h23 => ?_) (fun h23 => ?_)
        · skip
          refine mv_iload_n (pc := 63) B d_Book_skip_63 rfl 0 rfl ?_
          refine mv_bipush (pc := 64) (v := 9) B d_Book_skip_64 (by decide) ?_
          refine mv_icmp_eq (pc := 66) (tgt := 87) B d_Book_skip_66 rfl (fun h66 => ?_) (fun h66 => ?_)
          · skip
            refine mv_aload_n (pc := 87) B d_Book_skip_87 rfl 1 rfl ?_
            refine mv_dup (pc := 88) B d_Book_skip_88 rfl ?_
            refine mv_getI (pc := 89) (ci := 12) (C := R_Book) (T := F_Book) (N := 65) B 3 rfl rfl (by decide) i_Book (B.2.2.2.1 _ k_1846) rfl d_Book_skip_89 ?_
            refine mv_iconst (pc := 92) (v := 1) B d_Book_skip_92 (by decide) ?_
            refine mv_iadd (pc := 93) B d_Book_skip_93 ?_
            refine mv_putI (pc := 94) (ci := 12) (C := R_Book) (T := F_Book) (N := 65) B 3 rfl rfl (by decide) i_Book t_Book_ok n_Book (B.2.2.2.1 _ k_1846) rfl rfl rfl rfl d_Book_skip_94 ?_
            refine mv_gen (fun S97 eS97 => ?_)
            have hA : Ta 74 len σ S97 (a9 + 1) := by rw [eS97]; exact hA.inc hlt
            have ha : a0 ≤ a9 + 1 := by omega
            clear eS97
            refine mv_goto (pc := 97) (tgt := 101) B d_Book_skip_97 rfl ?_
            refine mv_lpick [1] rfl ?_
            refine mv_goto (pc := 101) (tgt := 0) B d_Book_skip_101 rfl ?_
            exact ih _ _ ha hA (by omega)
          · skip
            refine mv_iload_n (pc := 69) B d_Book_skip_69 rfl 0 rfl ?_
            refine mv_bipush (pc := 70) (v := 10) B d_Book_skip_70 (by decide) ?_
            refine mv_icmp_eq (pc := 72) (tgt := 87) B d_Book_skip_72 rfl (fun h72 => ?_) (fun h72 => ?_)
            · skip
              refine mv_aload_n (pc := 87) B d_Book_skip_87 rfl 1 rfl ?_
              refine mv_dup (pc := 88) B d_Book_skip_88 rfl ?_
              refine mv_getI (pc := 89) (ci := 12) (C := R_Book) (T := F_Book) (N := 65) B 3 rfl rfl (by decide) i_Book (B.2.2.2.1 _ k_1846) rfl d_Book_skip_89 ?_
              refine mv_iconst (pc := 92) (v := 1) B d_Book_skip_92 (by decide) ?_
              refine mv_iadd (pc := 93) B d_Book_skip_93 ?_
              refine mv_putI (pc := 94) (ci := 12) (C := R_Book) (T := F_Book) (N := 65) B 3 rfl rfl (by decide) i_Book t_Book_ok n_Book (B.2.2.2.1 _ k_1846) rfl rfl rfl rfl d_Book_skip_94 ?_
              refine mv_gen (fun S97 eS97 => ?_)
              have hA : Ta 74 len σ S97 (a9 + 1) := by rw [eS97]; exact hA.inc hlt
              have ha : a0 ≤ a9 + 1 := by omega
              clear eS97
              refine mv_goto (pc := 97) (tgt := 101) B d_Book_skip_97 rfl ?_
              refine mv_lpick [1] rfl ?_
              refine mv_goto (pc := 101) (tgt := 0) B d_Book_skip_101 rfl ?_
              exact ih _ _ ha hA (by omega)
            · skip
              refine mv_iload_n (pc := 75) B d_Book_skip_75 rfl 0 rfl ?_
              refine mv_bipush (pc := 76) (v := 13) B d_Book_skip_76 (by decide) ?_
              refine mv_icmp_eq (pc := 78) (tgt := 87) B d_Book_skip_78 rfl (fun h78 => ?_) (fun h78 => ?_)
              · skip
                refine mv_aload_n (pc := 87) B d_Book_skip_87 rfl 1 rfl ?_
                refine mv_dup (pc := 88) B d_Book_skip_88 rfl ?_
                refine mv_getI (pc := 89) (ci := 12) (C := R_Book) (T := F_Book) (N := 65) B 3 rfl rfl (by decide) i_Book (B.2.2.2.1 _ k_1846) rfl d_Book_skip_89 ?_
                refine mv_iconst (pc := 92) (v := 1) B d_Book_skip_92 (by decide) ?_
                refine mv_iadd (pc := 93) B d_Book_skip_93 ?_
                refine mv_putI (pc := 94) (ci := 12) (C := R_Book) (T := F_Book) (N := 65) B 3 rfl rfl (by decide) i_Book t_Book_ok n_Book (B.2.2.2.1 _ k_1846) rfl rfl rfl rfl d_Book_skip_94 ?_
                refine mv_gen (fun S97 eS97 => ?_)
                have hA : Ta 74 len σ S97 (a9 + 1) := by rw [eS97]; exact hA.inc hlt
                have ha : a0 ≤ a9 + 1 := by omega
                clear eS97
                refine mv_goto (pc := 97) (tgt := 101) B d_Book_skip_97 rfl ?_
                refine mv_lpick [1] rfl ?_
                refine mv_goto (pc := 101) (tgt := 0) B d_Book_skip_101 rfl ?_
                exact ih _ _ ha hA (by omega)
              · skip
                refine mv_iload_n (pc := 81) B d_Book_skip_81 rfl 0 rfl ?_
                refine mv_bipush (pc := 82) (v := 32) B d_Book_skip_82 (by decide) ?_
                refine mv_icmp_ne (pc := 84) (tgt := 100) B d_Book_skip_84 rfl (fun h84 => ?_) (fun h84 => ?_)
                · skip
                  exact mv_vret (pc := 100) B hr d_Book_skip_100 (Nat.le_refl _) (Nat.le_refl _) ⟨rfl, a9, hA, ha⟩
                · skip
                  refine mv_aload_n (pc := 87) B d_Book_skip_87 rfl 1 rfl ?_
                  refine mv_dup (pc := 88) B d_Book_skip_88 rfl ?_
                  refine mv_getI (pc := 89) (ci := 12) (C := R_Book) (T := F_Book) (N := 65) B 3 rfl rfl (by decide) i_Book (B.2.2.2.1 _ k_1846) rfl d_Book_skip_89 ?_
                  refine mv_iconst (pc := 92) (v := 1) B d_Book_skip_92 (by decide) ?_
                  refine mv_iadd (pc := 93) B d_Book_skip_93 ?_
                  refine mv_putI (pc := 94) (ci := 12) (C := R_Book) (T := F_Book) (N := 65) B 3 rfl rfl (by decide) i_Book t_Book_ok n_Book (B.2.2.2.1 _ k_1846) rfl rfl rfl rfl d_Book_skip_94 ?_
                  refine mv_gen (fun S97 eS97 => ?_)
                  have hA : Ta 74 len σ S97 (a9 + 1) := by rw [eS97]; exact hA.inc hlt
                  have ha : a0 ≤ a9 + 1 := by omega
                  clear eS97
                  refine mv_goto (pc := 97) (tgt := 101) B d_Book_skip_97 rfl ?_
                  refine mv_lpick [1] rfl ?_
                  refine mv_goto (pc := 101) (tgt := 0) B d_Book_skip_101 rfl ?_
                  exact ih _ _ ha hA (by omega)
        · skip
          refine mv_lpick [1, 0] rfl ?_
          exact inn (a9 + 1) (fun υ b h1 h2 => ih υ b (by omega) h2 (by omega)) _ _ _ (by omega) (fun _ => ⟨w16 ▸ h23, hlt⟩) hA
  refine mv_lpick [0] rfl ?_
  exact lp _ _ _ (Nat.le_refl _) hA0 (Nat.lt_succ_self _)
set_option maxHeartbeats 4000000 in
set_option maxRecDepth 100000 in
theorem c_Book_skip_y (l : Launch) {dA : FieldType → ClassId} {D : va_G} {al : Nat → Nat} {ext : mv_Sh} {sk sv : Nat → Nat} (hi : mv_inj (mg dA D al ext)) (σ : mv_H) (len a0 : Nat) (hA0 : Ta 108 len σ σ a0) : mv_C l y_Book_skip (Cond.code y_Book_skip b_Book_skip 2 (Option.none : Option Jvm.ClassFile.FieldType) :: ma) ({ frames := 1, cells := 0, slots := 0, locals := 21 }) (mg dA D al ext) (mK sk sv) [.ref (al 108)] σ (mv_Rv (fun σ1 => ∃ a1, Ta 108 len σ σ1 a1 ∧ a0 ≤ a1)) := by
  refine mv_C.ofV (cc := b_Book_skip) (nL := 2) (ret := (Option.none : Option Jvm.ClassFile.FieldType)) (by decide +kernel) rfl hi (Nat.le_of_ble_eq_true rfl) ?_
  intro p e s m below meth c B hNs hr hnm hno
  have hR := hA0.2.1
  have inn : ∀ (b9 : Nat) (hd : ∀ (τ : mv_H) (a9 : Nat), b9 ≤ a9 → Ta 108 len σ τ a9 → mv_V p l e ({ frames := 1, cells := 0, slots := 0, locals := 21 }) s m ([.ref (al 108)] : List Value).toArray below meth c (mg dA D al ext) 2 0 0 (mv_Q (mg dA D al ext) below s 0 0 (mv_Rv (fun σ1 => ∃ a1, Ta 108 len σ σ1 a1 ∧ a0 ≤ a1))) τ 0 [(0, .ref (al 108))] []) (τ : mv_H) (a9 : Nat) (c9 : Int32), b9 ≤ a9 + 1 → (a9 + 1 = b9 → lkv τ len (mv_i τ 108 3) = 35 ∧ a9 < len) → Ta 108 len σ τ a9 → mv_V p l e ({ frames := 1, cells := 0, slots := 0, locals := 21 }) s m ([.ref (al 108)] : List Value).toArray below meth c (mg dA D al ext) 2 0 0 (mv_Q (mg dA D al ext) below s 0 0 (mv_Rv (fun σ1 => ∃ a1, Ta 108 len σ σ1 a1 ∧ a0 ≤ a1))) τ 26 [(0, .ref (al 108)), (1, .int c9)] [] := by
    intro b9 hd
    have lq : ∀ (nn : Nat) (τ : mv_H) (a9 : Nat) (c9 : Int32) (ha : b9 ≤ a9 + 1) (hp : a9 + 1 = b9 → lkv τ len (mv_i τ 108 3) = 35 ∧ a9 < len) (hA : Ta 108 len σ τ a9), len - a9 < nn → mv_V p l e ({ frames := 1, cells := 0, slots := 0, locals := 21 }) s m ([.ref (al 108)] : List Value).toArray below meth c (mg dA D al ext) 2 0 0 (mv_Q (mg dA D al ext) below s 0 0 (mv_Rv (fun σ1 => ∃ a1, Ta 108 len σ σ1 a1 ∧ a0 ≤ a1))) τ 26 [(0, .ref (al 108)), (1, .int c9)] [] := by
      intro nn
      induction nn with
      | zero => intro τ a9 c9 ha hp hA hm; exact absurd hm (Nat.not_lt_zero _)
      | succ nn ih =>
        intro τ a9 c9 ha hp hA hm
        refine mv_aload_n (pc := 26) B d_Book_skip_26 rfl 0 rfl ?_
        refine mv_getI (pc := 27) (ci := 12) (C := R_Book) (T := F_Book) (N := 65) B 3 rfl rfl (by decide) i_Book (B.2.2.2.1 _ k_1846) rfl d_Book_skip_27 ?_
        refine mv_aload_n (pc := 30) B d_Book_skip_30 rfl 0 rfl ?_
        refine mv_getI (pc := 31) (ci := 12) (C := R_Book) (T := F_Book) (N := 65) B 2 rfl rfl (by decide) i_Book (B.2.2.2.1 _ k_1845) rfl d_Book_skip_31 ?_
        refine mv_icmp_ge (pc := 34) (tgt := 101) B d_Book_skip_34 rfl (fun h34 => ?_) (fun h34 => ?_)
        · skip
          have hx : b9 ≤ a9 := Decidable.byContradiction fun z => by have q := (hp (by omega)).2; have z2 := Int32.le_iff_toInt_le.mp h34; have := hA.2.2.2.1; have := hA.2.2.1; omega
          refine mv_lpick [0] rfl ?_
          refine mv_goto (pc := 101) (tgt := 0) B d_Book_skip_101 rfl ?_
          exact hd _ _ hx hA
        · skip
          have hlt : a9 < len := by have z : ¬ (mv_i τ 108 2).toInt ≤ (mv_i τ 108 3).toInt := fun z => h34 (Int32.le_iff_toInt_le.mpr z); have := hA.2.2.2.1; have := hA.2.2.1; omega
          refine mv_aload_n (pc := 37) B d_Book_skip_37 rfl 0 rfl ?_
          refine mv_aload_n (pc := 38) B d_Book_skip_38 rfl 0 rfl ?_
          refine mv_getI (pc := 39) (ci := 12) (C := R_Book) (T := F_Book) (N := 65) B 3 rfl rfl (by decide) i_Book (B.2.2.2.1 _ k_1846) rfl d_Book_skip_39 ?_
          refine mv_callVi (pc := 42) (n := 1) (ci := 12) (C := R_Book) B (mK_ok sk sv) hNs rfl rfl (c_Book_look_y l hi _ _ len hA.2.1 hA.2.2.1 hA.2.2.2.2.2 (by have := hA.2.2.2.1; omega)) rfl (ma_goodc kc_Book_look) (B.2.2.2.1 _ k_2122) (B.2.2.2.1 _ k_2124) (B.2.2.2.1 _ ks_82) (B.2.2.2.1 _ k_13) ⟨by decide +kernel, by decide +kernel, by decide +kernel⟩ rfl d_Book_skip_42 rfl (Nat.le_of_ble_eq_true rfl) ⟨by decide, by decide⟩ ⟨by decide, by decide⟩ ⟨by decide, by decide⟩ (mv_noH hno _) (fun v42 σ42 h42 => ?_)
          obtain ⟨e42, w42, z42⟩ := h42
          have e42 := e42.symm
          subst e42
          refine mv_bipush (pc := 45) (v := 10) B d_Book_skip_45 (by decide) ?_
          refine mv_icmp_eq (pc := 47) (tgt := 101) B d_Book_skip_47 rfl (fun h47 => ?_) (fun h47 => ?_)
          · skip
            have hx : b9 ≤ a9 := Decidable.byContradiction fun z => by have q := (hp (by omega)).1; rw [← w42, h47] at q; exact absurd q (by decide)
            refine mv_lpick [0] rfl ?_
            refine mv_goto (pc := 101) (tgt := 0) B d_Book_skip_101 rfl ?_
            exact hd _ _ hx hA
          · skip
            refine mv_aload_n (pc := 50) B d_Book_skip_50 rfl 0 rfl ?_
            refine mv_dup (pc := 51) B d_Book_skip_51 rfl ?_
            refine mv_getI (pc := 52) (ci := 12) (C := R_Book) (T := F_Book) (N := 65) B 3 rfl rfl (by decide) i_Book (B.2.2.2.1 _ k_1846) rfl d_Book_skip_52 ?_
            refine mv_iconst (pc := 55) (v := 1) B d_Book_skip_55 (by decide) ?_
            refine mv_iadd (pc := 56) B d_Book_skip_56 ?_
            refine mv_putI (pc := 57) (ci := 12) (C := R_Book) (T := F_Book) (N := 65) B 3 rfl rfl (by decide) i_Book t_Book_ok n_Book (B.2.2.2.1 _ k_1846) rfl rfl rfl rfl d_Book_skip_57 ?_
            refine mv_gen (fun S60 eS60 => ?_)
            have hA : Ta 108 len σ S60 (a9 + 1) := by rw [eS60]; exact hA.inc hlt
            have go := ih S60 (a9 + 1) c9 (by omega) (fun z => absurd z (by omega)) hA (by omega)
            clear eS60
            refine mv_goto (pc := 60) (tgt := 26) B d_Book_skip_60 rfl ?_
            refine mv_lpick [0, 1] rfl ?_
            exact go
    intro τ a9 c9 ha hp hA
    exact lq _ τ a9 c9 ha hp hA (Nat.lt_succ_self _)
  have lp : ∀ (nn : Nat) (τ : mv_H) (a9 : Nat) (ha : a0 ≤ a9) (hA : Ta 108 len σ τ a9), len - a9 < nn → mv_V p l e ({ frames := 1, cells := 0, slots := 0, locals := 21 }) s m ([.ref (al 108)] : List Value).toArray below meth c (mg dA D al ext) 2 0 0 (mv_Q (mg dA D al ext) below s 0 0 (mv_Rv (fun σ1 => ∃ a1, Ta 108 len σ σ1 a1 ∧ a0 ≤ a1))) τ 0 [(0, .ref (al 108))] [] := by
    intro nn
    induction nn with
    | zero => intro τ a9 ha hA hm; exact absurd hm (Nat.not_lt_zero _)
    | succ nn ih =>
      intro τ a9 ha hA hm
      refine mv_aload_n (pc := 0) B d_Book_skip_0 rfl 0 rfl ?_
      refine mv_getI (pc := 1) (ci := 12) (C := R_Book) (T := F_Book) (N := 65) B 3 rfl rfl (by decide) i_Book (B.2.2.2.1 _ k_1846) rfl d_Book_skip_1 ?_
      refine mv_aload_n (pc := 4) B d_Book_skip_4 rfl 0 rfl ?_
      refine mv_getI (pc := 5) (ci := 12) (C := R_Book) (T := F_Book) (N := 65) B 2 rfl rfl (by decide) i_Book (B.2.2.2.1 _ k_1845) rfl d_Book_skip_5 ?_
      refine mv_icmp_ge (pc := 8) (tgt := 104) B d_Book_skip_8 rfl (fun h8 => ?_) (fun h8 => ?_)
      · skip
        exact mv_vret (pc := 104) B hr d_Book_skip_104 (Nat.le_refl _) (Nat.le_refl _) ⟨rfl, a9, hA, ha⟩
      · skip
        have hlt : a9 < len := by have z : ¬ (mv_i τ 108 2).toInt ≤ (mv_i τ 108 3).toInt := fun z => h8 (Int32.le_iff_toInt_le.mpr z); have := hA.2.2.2.1; have := hA.2.2.1; omega
        refine mv_aload_n (pc := 11) B d_Book_skip_11 rfl 0 rfl ?_
        refine mv_aload_n (pc := 12) B d_Book_skip_12 rfl 0 rfl ?_
        refine mv_getI (pc := 13) (ci := 12) (C := R_Book) (T := F_Book) (N := 65) B 3 rfl rfl (by decide) i_Book (B.2.2.2.1 _ k_1846) rfl d_Book_skip_13 ?_
        refine mv_callVi (pc := 16) (n := 1) (ci := 12) (C := R_Book) B (mK_ok sk sv) hNs rfl rfl (c_Book_look_y l hi _ _ len hA.2.1 hA.2.2.1 hA.2.2.2.2.2 (by have := hA.2.2.2.1; omega)) rfl (ma_goodc kc_Book_look) (B.2.2.2.1 _ k_2122) (B.2.2.2.1 _ k_2124) (B.2.2.2.1 _ ks_82) (B.2.2.2.1 _ k_13) ⟨by decide +kernel, by decide +kernel, by decide +kernel⟩ rfl d_Book_skip_16 rfl (Nat.le_of_ble_eq_true rfl) ⟨by decide, by decide⟩ ⟨by decide, by decide⟩ ⟨by decide, by decide⟩ (mv_noH hno _) (fun v16 σ16 h16 => ?_)
        obtain ⟨e16, w16, z16⟩ := h16
        have e16 := e16.symm
        subst e16
        refine mv_istore_n (pc := 19) B d_Book_skip_19 rfl (by decide) rfl ?_
        refine mv_iload_n (pc := 20) B d_Book_skip_20 rfl 0 rfl ?_
        refine mv_bipush (pc := 21) (v := 35) B d_Book_skip_21 (by decide) ?_
        refine mv_icmp_ne (pc := 23) (tgt := 63) B d_Book_skip_23 rfl (fun h23 => ?_) (fun h23 => ?_)
        · skip
          refine mv_iload_n (pc := 63) B d_Book_skip_63 rfl 0 rfl ?_
          refine mv_bipush (pc := 64) (v := 9) B d_Book_skip_64 (by decide) ?_
          refine mv_icmp_eq (pc := 66) (tgt := 87) B d_Book_skip_66 rfl (fun h66 => ?_) (fun h66 => ?_)
          · skip
            refine mv_aload_n (pc := 87) B d_Book_skip_87 rfl 1 rfl ?_
            refine mv_dup (pc := 88) B d_Book_skip_88 rfl ?_
            refine mv_getI (pc := 89) (ci := 12) (C := R_Book) (T := F_Book) (N := 65) B 3 rfl rfl (by decide) i_Book (B.2.2.2.1 _ k_1846) rfl d_Book_skip_89 ?_
            refine mv_iconst (pc := 92) (v := 1) B d_Book_skip_92 (by decide) ?_
            refine mv_iadd (pc := 93) B d_Book_skip_93 ?_
            refine mv_putI (pc := 94) (ci := 12) (C := R_Book) (T := F_Book) (N := 65) B 3 rfl rfl (by decide) i_Book t_Book_ok n_Book (B.2.2.2.1 _ k_1846) rfl rfl rfl rfl d_Book_skip_94 ?_
            refine mv_gen (fun S97 eS97 => ?_)
            have hA : Ta 108 len σ S97 (a9 + 1) := by rw [eS97]; exact hA.inc hlt
            have ha : a0 ≤ a9 + 1 := by omega
            clear eS97
            refine mv_goto (pc := 97) (tgt := 101) B d_Book_skip_97 rfl ?_
            refine mv_lpick [1] rfl ?_
            refine mv_goto (pc := 101) (tgt := 0) B d_Book_skip_101 rfl ?_
            exact ih _ _ ha hA (by omega)
          · skip
            refine mv_iload_n (pc := 69) B d_Book_skip_69 rfl 0 rfl ?_
            refine mv_bipush (pc := 70) (v := 10) B d_Book_skip_70 (by decide) ?_
            refine mv_icmp_eq (pc := 72) (tgt := 87) B d_Book_skip_72 rfl (fun h72 => ?_) (fun h72 => ?_)
            · skip
              refine mv_aload_n (pc := 87) B d_Book_skip_87 rfl 1 rfl ?_
              refine mv_dup (pc := 88) B d_Book_skip_88 rfl ?_
              refine mv_getI (pc := 89) (ci := 12) (C := R_Book) (T := F_Book) (N := 65) B 3 rfl rfl (by decide) i_Book (B.2.2.2.1 _ k_1846) rfl d_Book_skip_89 ?_
              refine mv_iconst (pc := 92) (v := 1) B d_Book_skip_92 (by decide) ?_
              refine mv_iadd (pc := 93) B d_Book_skip_93 ?_
              refine mv_putI (pc := 94) (ci := 12) (C := R_Book) (T := F_Book) (N := 65) B 3 rfl rfl (by decide) i_Book t_Book_ok n_Book (B.2.2.2.1 _ k_1846) rfl rfl rfl rfl d_Book_skip_94 ?_
              refine mv_gen (fun S97 eS97 => ?_)
              have hA : Ta 108 len σ S97 (a9 + 1) := by rw [eS97]; exact hA.inc hlt
              have ha : a0 ≤ a9 + 1 := by omega
              clear eS97
              refine mv_goto (pc := 97) (tgt := 101) B d_Book_skip_97 rfl ?_
              refine mv_lpick [1] rfl ?_
              refine mv_goto (pc := 101) (tgt := 0) B d_Book_skip_101 rfl ?_
              exact ih _ _ ha hA (by omega)
            · skip
              refine mv_iload_n (pc := 75) B d_Book_skip_75 rfl 0 rfl ?_
              refine mv_bipush (pc := 76) (v := 13) B d_Book_skip_76 (by decide) ?_
              refine mv_icmp_eq (pc := 78) (tgt := 87) B d_Book_skip_78 rfl (fun h78 => ?_) (fun h78 => ?_)
              · skip
                refine mv_aload_n (pc := 87) B d_Book_skip_87 rfl 1 rfl ?_
                refine mv_dup (pc := 88) B d_Book_skip_88 rfl ?_
                refine mv_getI (pc := 89) (ci := 12) (C := R_Book) (T := F_Book) (N := 65) B 3 rfl rfl (by decide) i_Book (B.2.2.2.1 _ k_1846) rfl d_Book_skip_89 ?_
                refine mv_iconst (pc := 92) (v := 1) B d_Book_skip_92 (by decide) ?_
                refine mv_iadd (pc := 93) B d_Book_skip_93 ?_
                refine mv_putI (pc := 94) (ci := 12) (C := R_Book) (T := F_Book) (N := 65) B 3 rfl rfl (by decide) i_Book t_Book_ok n_Book (B.2.2.2.1 _ k_1846) rfl rfl rfl rfl d_Book_skip_94 ?_
                refine mv_gen (fun S97 eS97 => ?_)
                have hA : Ta 108 len σ S97 (a9 + 1) := by rw [eS97]; exact hA.inc hlt
                have ha : a0 ≤ a9 + 1 := by omega
                clear eS97
                refine mv_goto (pc := 97) (tgt := 101) B d_Book_skip_97 rfl ?_
                refine mv_lpick [1] rfl ?_
                refine mv_goto (pc := 101) (tgt := 0) B d_Book_skip_101 rfl ?_
                exact ih _ _ ha hA (by omega)
              · skip
                refine mv_iload_n (pc := 81) B d_Book_skip_81 rfl 0 rfl ?_
                refine mv_bipush (pc := 82) (v := 32) B d_Book_skip_82 (by decide) ?_
                refine mv_icmp_ne (pc := 84) (tgt := 100) B d_Book_skip_84 rfl (fun h84 => ?_) (fun h84 => ?_)
                · skip
                  exact mv_vret (pc := 100) B hr d_Book_skip_100 (Nat.le_refl _) (Nat.le_refl _) ⟨rfl, a9, hA, ha⟩
                · skip
                  refine mv_aload_n (pc := 87) B d_Book_skip_87 rfl 1 rfl ?_
                  refine mv_dup (pc := 88) B d_Book_skip_88 rfl ?_
                  refine mv_getI (pc := 89) (ci := 12) (C := R_Book) (T := F_Book) (N := 65) B 3 rfl rfl (by decide) i_Book (B.2.2.2.1 _ k_1846) rfl d_Book_skip_89 ?_
                  refine mv_iconst (pc := 92) (v := 1) B d_Book_skip_92 (by decide) ?_
                  refine mv_iadd (pc := 93) B d_Book_skip_93 ?_
                  refine mv_putI (pc := 94) (ci := 12) (C := R_Book) (T := F_Book) (N := 65) B 3 rfl rfl (by decide) i_Book t_Book_ok n_Book (B.2.2.2.1 _ k_1846) rfl rfl rfl rfl d_Book_skip_94 ?_
                  refine mv_gen (fun S97 eS97 => ?_)
                  have hA : Ta 108 len σ S97 (a9 + 1) := by rw [eS97]; exact hA.inc hlt
                  have ha : a0 ≤ a9 + 1 := by omega
                  clear eS97
                  refine mv_goto (pc := 97) (tgt := 101) B d_Book_skip_97 rfl ?_
                  refine mv_lpick [1] rfl ?_
                  refine mv_goto (pc := 101) (tgt := 0) B d_Book_skip_101 rfl ?_
                  exact ih _ _ ha hA (by omega)
        · skip
          refine mv_lpick [1, 0] rfl ?_
          exact inn (a9 + 1) (fun υ b h1 h2 => ih υ b (by omega) h2 (by omega)) _ _ _ (by omega) (fun _ => ⟨w16 ▸ h23, hlt⟩) hA
  refine mv_lpick [0] rfl ?_
  exact lp _ _ _ (Nat.le_refl _) hA0 (Nat.lt_succ_self _)
