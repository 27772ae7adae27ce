/-! the reference's Book: names, nodes, faults -/
/-- a frame: which ints, longs, places of rows, rows of longs may change; references stay -/
def Fx (pi pl pa : Nat → Nat → Prop) (pb : Nat → Prop) (σ τ : mv_H) : Prop := (∀ o k, ¬ pi o k → mv_i τ o k = mv_i σ o k) ∧ (∀ o k, ¬ pl o k → mv_l τ o k = mv_l σ o k) ∧ mv_r τ = mv_r σ ∧ (∀ o j, ¬ pa o j → mv_a τ o j = mv_a σ o j) ∧ ∀ o, ¬ pb o → mv_b τ o = mv_b σ o
section FX
variable {pi pl pa qi ql qa : Nat → Nat → Prop} {pb qb : Nat → Prop} {σ τ υ : mv_H}
theorem Fx.rf : Fx pi pl pa pb σ σ := ⟨fun _ _ _ => rfl, fun _ _ _ => rfl, rfl, fun _ _ _ => rfl, fun _ _ => rfl⟩
theorem Fx.tr (h : Fx pi pl pa pb σ τ) (g : Fx pi pl pa pb τ υ) : Fx pi pl pa pb σ υ := ⟨fun o k q => (g.1 o k q).trans (h.1 o k q), fun o k q => (g.2.1 o k q).trans (h.2.1 o k q), g.2.2.1.trans h.2.2.1, fun o j q => (g.2.2.2.1 o j q).trans (h.2.2.2.1 o j q), fun o q => (g.2.2.2.2 o q).trans (h.2.2.2.2 o q)⟩
theorem Fx.up (h : Fx pi pl pa pb σ τ) (h1 : ∀ o k, pi o k → qi o k) (h2 : ∀ o k, pl o k → ql o k) (h3 : ∀ o k, pa o k → qa o k) (h4 : ∀ o, pb o → qb o) : Fx qi ql qa qb σ τ := ⟨fun o k q => h.1 o k (fun z => q (h1 o k z)), fun o k q => h.2.1 o k (fun z => q (h2 o k z)), h.2.2.1, fun o k q => h.2.2.2.1 o k (fun z => q (h3 o k z)), fun o q => h.2.2.2.2 o (fun z => q (h4 o z))⟩
theorem Fx.si (h : Fx pi pl pa pb σ τ) {o k : Nat} {v : Int32} (q : pi o k) : Fx pi pl pa pb σ (mv_si τ o k v) := ⟨fun o' k' z => (mv_u_ne _ _ (fun e => z (by rw [e.1, e.2]; exact q))).trans (h.1 o' k' z), h.2⟩
theorem Fx.sl (h : Fx pi pl pa pb σ τ) {o k : Nat} {v : Int64} (q : pl o k) : Fx pi pl pa pb σ (mv_sl τ o k v) := ⟨h.1, fun o' k' z => (mv_u_ne _ _ (fun e => z (by rw [e.1, e.2]; exact q))).trans (h.2.1 o' k' z), h.2.2⟩
theorem Fx.sa (h : Fx pi pl pa pb σ τ) {o k : Nat} {v : Int32} (q : pa o k) : Fx pi pl pa pb σ (mv_sa τ o k v) := ⟨h.1, h.2.1, h.2.2.1, fun o' k' z => (mv_u_ne _ _ (fun e => z (by rw [e.1, e.2]; exact q))).trans (h.2.2.2.1 o' k' z), h.2.2.2.2⟩
theorem Fx.sb (h : Fx pi pl pa pb σ τ) {o k : Nat} {v : Int64} (q : pb o) : Fx pi pl pa pb σ (mv_sb τ o k v) := ⟨h.1, h.2.1, h.2.2.1, h.2.2.2.1, fun o' z => (mv_u_o _ _ (fun e => z (by rw [e]; exact q))).trans (h.2.2.2.2 o' z)⟩
end FX
/-- tokens and faults -/
def TF (B : Nat) : mv_H → mv_H → Prop := Fx (fun o k => (o = B ∧ ((3 ≤ k ∧ k ≤ 7) ∨ k = 37 ∨ k = 38)) ∨ (o = B + 33 ∧ k = 0)) (fun o k => o = B ∧ k = 9) (fun _ _ => False) (fun _ => False)
/-- an expression: tokens, faults, depth, nodes from n on -/
def XF (B n : Nat) : mv_H → mv_H → Prop := Fx (fun o k => (o = B ∧ ((3 ≤ k ∧ k ≤ 8) ∨ k = 37 ∨ k = 38 ∨ k = 48)) ∨ (o = B + 33 ∧ k = 0)) (fun o k => o = B ∧ k = 9) (fun o j => (B + 18 ≤ o ∧ o ≤ B + 25) ∧ n ≤ j) (fun o => o = B + 24)
/-- anything within the book -/
def BF (B : Nat) : mv_H → mv_H → Prop := Fx (fun o _ => B ≤ o ∧ o ≤ B + 33) (fun o _ => B ≤ o ∧ o ≤ B + 33) (fun o _ => B ≤ o ∧ o ≤ B + 33) (fun o => B ≤ o ∧ o ≤ B + 33)
theorem TkB.tf {B : Nat} {σ τ : mv_H} (h : TkB B σ τ) : TF B σ τ := ⟨fun o k q => h.1 o k (fun z => q (Or.inl ⟨z.1, Or.inl z.2⟩)) (fun z => q (Or.inr z)), fun o k q => h.2.1 o k q, h.2.2.1, fun o j _ => by rw [h.2.2.2.1], fun o _ => by rw [h.2.2.2.2]⟩
theorem TF.xf {B n : Nat} {σ τ : mv_H} (h : TF B σ τ) : XF B n σ τ := h.up (fun o k z => by omega) (fun o k z => z) (fun o k z => absurd z id) (fun o z => absurd z id)
theorem XF.bf {B n : Nat} {σ τ : mv_H} (h : XF B n σ τ) : BF B σ τ := h.up (fun o k z => by omega) (fun o k z => by omega) (fun o k z => by omega) (fun o z => by omega)
theorem TF.bf {B : Nat} {σ τ : mv_H} (h : TF B σ τ) : BF B σ τ := (h.xf (n := 0)).bf
theorem TkB.bf {B : Nat} {σ τ : mv_H} (h : TkB B σ τ) : BF B σ τ := h.tf.bf
theorem XF.lo {B n n' : Nat} {σ τ : mv_H} (h : XF B n' σ τ) (hn : n ≤ n') : XF B n σ τ := h.up (fun o k z => z) (fun o k z => z) (fun o k z => ⟨z.1, by omega⟩) (fun o z => z)
theorem BF.tr {B : Nat} {σ τ υ : mv_H} (h : BF B σ τ) (g : BF B τ υ) : BF B σ υ := Fx.tr h g
theorem XF.tr {B n : Nat} {σ τ υ : mv_H} (h : XF B n σ τ) (g : XF B n τ υ) : XF B n σ υ := Fx.tr h g
theorem TF.tr {B : Nat} {σ τ υ : mv_H} (h : TF B σ τ) (g : TF B τ υ) : TF B σ υ := Fx.tr h g
theorem TF.rf {B : Nat} {σ : mv_H} : TF B σ σ := Fx.rf
theorem XF.rf {B n : Nat} {σ : mv_H} : XF B n σ σ := Fx.rf
theorem BF.rf {B : Nat} {σ : mv_H} : BF B σ σ := Fx.rf
/-- a token is a token still where its fields are -/
theorem Tq.keep {B len a b : Nat} {ρ σ τ : mv_H} (h : Tq B len ρ σ a b) (e : ∀ k, 2 ≤ k → k ≤ 6 → mv_i τ B k = mv_i σ B k) (er : mv_r τ = mv_r σ) : Tq B len τ τ a b := by
  obtain ⟨⟨-, h2, h3, h4, h5⟩, h6, h7, h8, h9, h10⟩ := h
  refine ⟨⟨TkB.rf, by rw [er]; exact h2, by rw [e 2 (by decide) (by decide)]; exact h3, by rw [e 3 (by decide) (by decide)]; exact h4, h5⟩, by rw [e 5 (by decide) (by decide)]; exact h6, h7, by rw [e 6 (by decide) (by decide), e 3 (by decide) (by decide)]; exact h8, by rw [e 4 (by decide) (by decide)]; exact h9, by rw [e 4 (by decide) (by decide)]; exact h10⟩
/-- a place in INPUT -/
def Sp (len : Nat) (a b : Int32) : Prop := 0 ≤ a.toInt ∧ a.toInt ≤ b.toInt ∧ b.toInt ≤ len
/-- the things -/
def NT (B len : Nat) (σ : mv_H) : Prop := 0 ≤ (mv_i σ B 17).toInt ∧ (mv_i σ B 17).toInt ≤ 64 ∧ ∀ t : Nat, (t : Int) < (mv_i σ B 17).toInt → Sp len (mv_a σ (B + 1) t) (mv_a σ (B + 2) t)
/-- the lets -/
def NL (B len : Nat) (σ : mv_H) : Prop := 0 ≤ (mv_i σ B 35).toInt ∧ (mv_i σ B 35).toInt ≤ 4000 ∧ ∀ t : Nat, (t : Int) < (mv_i σ B 35).toInt → Sp len (mv_a σ (B + 14) t) (mv_a σ (B + 15) t) ∧ 0 ≤ (mv_a σ (B + 17) t).toInt ∧ (mv_a σ (B + 17) t).toInt < 4100
/-- the code at hand -/
def NC (B : Nat) (σ : mv_H) : Prop := 0 ≤ (mv_i σ B 29).toInt ∧ (mv_i σ B 29).toInt ≤ 4000 ∧ 0 ≤ (mv_a σ (B + 10) (mv_i σ B 29).toNatClampNeg).toInt ∧ (mv_i σ B 30).toInt ≤ 32768
def Nm (B len : Nat) (σ : mv_H) : Prop := NT B len σ ∧ NL B len σ ∧ NC B σ
theorem NT.fr {B len : Nat} {σ τ : mv_H} (h : NT B len σ) (e1 : mv_i τ B 17 = mv_i σ B 17) (e2 : ∀ t : Nat, (t : Int) < 64 → mv_a τ (B + 1) t = mv_a σ (B + 1) t ∧ mv_a τ (B + 2) t = mv_a σ (B + 2) t) : NT B len τ := by
  unfold NT
  rw [e1]
  refine ⟨h.1, h.2.1, fun t ht => ?_⟩
  have := h.2.1
  rw [(e2 t (by omega)).1, (e2 t (by omega)).2]
  exact h.2.2 t ht
theorem NL.fr {B len : Nat} {σ τ : mv_H} (h : NL B len σ) (e1 : mv_i τ B 35 = mv_i σ B 35) (e2 : ∀ t : Nat, (t : Int) < (mv_i σ B 35).toInt → mv_a τ (B + 14) t = mv_a σ (B + 14) t ∧ mv_a τ (B + 15) t = mv_a σ (B + 15) t ∧ mv_a τ (B + 17) t = mv_a σ (B + 17) t) : NL B len τ := by
  unfold NL
  rw [e1]
  refine ⟨h.1, h.2.1, fun t ht => ?_⟩
  rw [(e2 t ht).1, (e2 t ht).2.1, (e2 t ht).2.2]
  exact h.2.2 t ht
theorem NC.fr {B : Nat} {σ τ : mv_H} (h : NC B σ) (e1 : mv_i τ B 29 = mv_i σ B 29) (e2 : mv_i τ B 30 = mv_i σ B 30) (e3 : ∀ j, mv_a τ (B + 10) j = mv_a σ (B + 10) j) : NC B τ := by
  unfold NC
  rw [e1, e2, e3]
  exact h
theorem Nm.xf {B len n : Nat} {σ τ : mv_H} (h : Nm B len σ) (f : XF B n σ τ) : Nm B len τ :=
  ⟨h.1.fr (f.1 _ _ (by omega)) (fun t _ => ⟨f.2.2.2.1 _ _ (by omega), f.2.2.2.1 _ _ (by omega)⟩), h.2.1.fr (f.1 _ _ (by omega)) (fun t _ => ⟨f.2.2.2.1 _ _ (by omega), f.2.2.2.1 _ _ (by omega), f.2.2.2.1 _ _ (by omega)⟩), h.2.2.fr (f.1 _ _ (by omega)) (f.1 _ _ (by omega)) (fun j => f.2.2.2.1 _ _ (by omega))⟩
/-- a new node -/
def nd (B : Nat) (σ : mv_H) (s x y z w : Int32) : mv_H := mv_sa (mv_sa (mv_sa (mv_sa (mv_sa (mv_sa (mv_sa (mv_si σ B 48 (mv_i σ B 48 + 1)) (B + 18) (mv_i σ B 48).toNatClampNeg s) (B + 19) (mv_i σ B 48).toNatClampNeg x) (B + 20) (mv_i σ B 48).toNatClampNeg y) (B + 21) (mv_i σ B 48).toNatClampNeg z) (B + 23) (mv_i σ B 48).toNatClampNeg w) (B + 22) (mv_i σ B 48).toNatClampNeg (-1)) (B + 25) (mv_i σ B 48).toNatClampNeg (vp_nar .boolean 0)
section ND
variable {B n : Nat} {σ : mv_H} {s x y z w : Int32}
theorem nd_i {o k : Nat} (h : ¬ (o = B ∧ k = 48)) : mv_i (nd B σ s x y z w) o k = mv_i σ o k := mv_u_ne _ _ h
theorem nd_n : mv_i (nd B σ s x y z w) B 48 = mv_i σ B 48 + 1 := mv_u_same _ _ _ _
theorem nd_o {o j : Nat} (h : ¬ ((B + 18 ≤ o ∧ o ≤ B + 25) ∧ j = (mv_i σ B 48).toNatClampNeg)) : mv_a (nd B σ s x y z w) o j = mv_a σ o j := by
  unfold nd
  show mv_u (mv_u (mv_u (mv_u (mv_u (mv_u (mv_u _ _ _ _) _ _ _) _ _ _) _ _ _) _ _ _) _ _ _) _ _ _ o j = _
  rw [mv_u_ne _ _ (by omega), mv_u_ne _ _ (by omega), mv_u_ne _ _ (by omega), mv_u_ne _ _ (by omega), mv_u_ne _ _ (by omega), mv_u_ne _ _ (by omega), mv_u_ne _ _ (by omega)]
  rfl
theorem nd_v (h : (mv_i σ B 48).toNatClampNeg = n) : mv_a (nd B σ s x y z w) (B + 18) n = s ∧ mv_a (nd B σ s x y z w) (B + 19) n = x ∧ mv_a (nd B σ s x y z w) (B + 20) n = y ∧ mv_a (nd B σ s x y z w) (B + 21) n = z ∧ mv_a (nd B σ s x y z w) (B + 22) n = -1 ∧ mv_a (nd B σ s x y z w) (B + 25) n = 0 := by
  unfold nd
  rw [h]
  refine ⟨?_, ?_, ?_, ?_, ?_, ?_⟩
  · show mv_u (mv_u (mv_u (mv_u (mv_u (mv_u (mv_u _ _ _ _) _ _ _) _ _ _) _ _ _) _ _ _) _ _ _) _ _ _ _ _ = _
    rw [mv_u_ne _ _ (by omega), mv_u_ne _ _ (by omega), mv_u_ne _ _ (by omega), mv_u_ne _ _ (by omega), mv_u_ne _ _ (by omega), mv_u_ne _ _ (by omega), mv_u_same]
  · show mv_u (mv_u (mv_u (mv_u (mv_u (mv_u (mv_u _ _ _ _) _ _ _) _ _ _) _ _ _) _ _ _) _ _ _) _ _ _ _ _ = _
    rw [mv_u_ne _ _ (by omega), mv_u_ne _ _ (by omega), mv_u_ne _ _ (by omega), mv_u_ne _ _ (by omega), mv_u_ne _ _ (by omega), mv_u_same]
  · show mv_u (mv_u (mv_u (mv_u (mv_u (mv_u (mv_u _ _ _ _) _ _ _) _ _ _) _ _ _) _ _ _) _ _ _) _ _ _ _ _ = _
    rw [mv_u_ne _ _ (by omega), mv_u_ne _ _ (by omega), mv_u_ne _ _ (by omega), mv_u_ne _ _ (by omega), mv_u_same]
  · show mv_u (mv_u (mv_u (mv_u (mv_u (mv_u (mv_u _ _ _ _) _ _ _) _ _ _) _ _ _) _ _ _) _ _ _) _ _ _ _ _ = _
    rw [mv_u_ne _ _ (by omega), mv_u_ne _ _ (by omega), mv_u_ne _ _ (by omega), mv_u_same]
  · show mv_u (mv_u (mv_u (mv_u (mv_u (mv_u (mv_u _ _ _ _) _ _ _) _ _ _) _ _ _) _ _ _) _ _ _) _ _ _ _ _ = _
    rw [mv_u_ne _ _ (by omega), mv_u_same]
  · show mv_u (mv_u (mv_u (mv_u (mv_u (mv_u (mv_u _ _ _ _) _ _ _) _ _ _) _ _ _) _ _ _) _ _ _) _ _ _ _ _ = _
    rw [mv_u_same]
    rfl
theorem nd_xf (h : (mv_i σ B 48).toNatClampNeg = n) : XF B n σ (nd B σ s x y z w) := ⟨fun o k q => nd_i (fun e => q (Or.inl ⟨e.1, Or.inr (Or.inr (Or.inr e.2))⟩)), fun _ _ _ => rfl, rfl, fun o j q => nd_o (by rw [h]; exact fun e => q ⟨e.1, by omega⟩), fun _ _ => rfl⟩
end ND
section MVSN
variable {p : Program} {l : Launch} {e : Env} {R : Room} {s : State} {m : MethodId} {args : Array Value} {below : List Frame} {meth : Method} {c : Code} {G : mv_G} {ws : List Cond} {own : String} {cc : ByteArray} {nL : Nat} {cells slots : Nat} {σ : mv_H} {pc : Nat} {L : List (Nat × Value)} {stk rest : List Value}
  {K : mv_T} {ws' wt' : List Cond} {rm' : Room} {y : MethodName} {bytes : ByteArray} {maxL index mc ms n : Nat} {ret : Option FieldType} {av : List Value} {PostC : mv_O → mv_H → Prop}
/-- a static method of a nest mate -/
theorem mv_callSNi (B : mv_B p s m args meth c G ws own cc nL) (hN : mv_Tok K) (hNs : K (mv_A G s.heap.size) s s.heap) {host : String} {P : Int32 → mv_H → Prop} (hM : mv_C l y ws' rm' G K av σ (mv_Ri P)) (hw : ws' = Cond.code y bytes maxL ret :: wt') (hG : GoodIn ws ws')
    (hlink : (Cond.methodLinkNest own index y host).before args s = true) (hstat : (Cond.static y).before args s = true) (hini : (Cond.initialized y.cls).before args s = true)
    (hd : y.cls ≠ "java/lang/invoke/MethodHandle" ∧ y.cls ≠ "java/lang/invoke/VarHandle" ∧ (parseMethodDescriptor y.desc).map (fun d => d.parameters.length) = some n) (hn : av.length = n)
    (hdg : decode cc pc = .ok (.invokestatic index, 3)) (hstk : stk = av.reverse ++ rest) (hr8 : (rest.map fun v => v.category).sum ≤ 8) (hroom : rm'.frames + 1 ≤ R.frames ∧ 8 + (maxL + 11) + rm'.locals ≤ R.locals) (hcell : cells + rm'.cells ≤ R.cells ∧ slots + rm'.slots ≤ R.slots)
    (hmc : cells + rm'.cells ≤ mc ∧ slots + rm'.slots ≤ ms) (hout : ∀ x ∈ c.exceptionTable.toList, covers x pc = false)
    (kn : ∀ (v : Int32) (σ' : mv_H), P v σ' → mv_V p l e R s m args below meth c G nL (cells + rm'.cells) (slots + rm'.slots) (mv_Q G below s mc ms PostC) σ' (pc + 3) L (.int v :: rest)) :
    mv_V p l e R s m args below meth c G nL cells slots (mv_Q G below s mc ms PostC) σ pc L stk := fun H locs ls h1 h2 h3 T hT X => by
  have hcode : (Cond.code y bytes maxL ret).before args s = true := B.2.2.2.1 _ (hG _ (by rw [hw]; exact List.mem_cons_self)).1
  obtain ⟨mk, hnamed⟩ := Cond.code_named hcode
  obtain ⟨methM, cM, hmethM, -, -, -, -, -, -, hsigM⟩ := Cond.code_spec hnamed hcode
  have hstatic : methM.isStatic = true := Cond.static_spec hnamed hmethM hstat
  obtain ⟨kP, hkP, -⟩ := className_of_methodNamed hnamed
  have hinitP : kP.init = .initialized := Cond.initialized_spec (findClass_of_methodNamed hnamed) hkP hini
  have hlen : av.length = methM.sig.parameters.length := by
    have h9 := hd.2.2
    rw [hsigM] at h9
    exact hn.trans (Option.some.inj h9).symm
  obtain ⟨vm₁, X₁, hstep₁⟩ := X.invokestaticNest B.1.1 B.2.2.1 hlink hnamed hmethM hstatic hkP hinitP ⟨hd.1, hd.2.1⟩ (g := F0 m pc ls stk) rfl (argsL := av) (rest := rest) hlen hstk (by rw [B.1.2]; exact hdg)
  have hU : (T.setVm vm₁).heap = H := hT
  have hcore := mv_core X₁ (g := F0 m pc ls rest) rfl (by rw [B.2.1]; exact h3.1) (ig := .invokestatic index) (len := 3) (by rw [B.1.2]; exact hdg) (lv_room hr8) hN (X₁.named hnamed) (mv_cd B hG hw X₁.warmed (X₁.named hnamed))
    (word_at X₁.warmed (Or.inl (by first | rfl | simp [Cond.onTables, Cond.keeps, Cond.steady])) hini) hM (mv_pre B hG X₁.warmed _) (mv_S_of B hN hNs hU X₁.warmed h1 h2) hroom.1 hroom.2 hcell.1 hcell.2
  exact mv_back B hU X₁ h2 h3 hcore (fun tg h => hstep₁ _ fun acts => by rw [doInvoke_state]; exact h) hmc.1 hmc.2 hout (fun x σ' h => by obtain ⟨_, h, _⟩ := h; cases h) (fun v σ' h => by
    obtain ⟨v, hv, h⟩ := h
    cases hv
    exact kn v σ' h)
end MVSN
theorem l2i_rng {x : Int64} {a b : Int} (h1 : a ≤ x.toInt) (h2 : x.toInt ≤ b) (ha : 0 ≤ a) (hb : b < 2147483648) : a ≤ x.toInt32.toInt ∧ x.toInt32.toInt ≤ b := by
  have := l2i_nn (x := x) (by omega) (by omega)
  omega

theorem Tq.sp {B len a b : Nat} {σ τ : mv_H} (h : Tq B len σ τ a b) : Sp len (mv_i τ B 5) (mv_i τ B 6) := by
  have h1 := h.2.1
  have h2 := h.stop
  have h3 := h.1.2.2.2.2.1
  have h4 := h.2.2.1
  exact ⟨by omega, by omega, by omega⟩
def y_Model_in : MethodName := ⟨"MachineLoomModel", "in", "(JJJ)Z"⟩
abbrev b_Model_in : ByteArray := prog_14_method_3_code
theorem kc_Model_in : Cond.code y_Model_in b_Model_in 6 (Option.some Jvm.ClassFile.FieldType.boolean) ∈ ma := ma_of (tb_10 _ (List.mem_of_getElem? (i := 49) rfl)) rfl
theorem d_Model_in_0 : decode b_Model_in 0 = .ok (.lload_n 0, 1) := by decide +kernel
theorem d_Model_in_1 : decode b_Model_in 1 = .ok (.lload_n 2, 1) := by decide +kernel
theorem d_Model_in_2 : decode b_Model_in 2 = .ok (.lcmp, 1) := by decide +kernel
theorem d_Model_in_3 : decode b_Model_in 3 = .ok (.ifCond .lt (14), 3) := by decide +kernel
theorem d_Model_in_6 : decode b_Model_in 6 = .ok (.lload_n 0, 1) := by decide +kernel
theorem d_Model_in_7 : decode b_Model_in 7 = .ok (.lload 4, 2) := by decide +kernel
theorem d_Model_in_9 : decode b_Model_in 9 = .ok (.lcmp, 1) := by decide +kernel
theorem d_Model_in_10 : decode b_Model_in 10 = .ok (.ifCond .gt (7), 3) := by decide +kernel
theorem d_Model_in_13 : decode b_Model_in 13 = .ok (.iconst 1, 1) := by decide +kernel
theorem d_Model_in_14 : decode b_Model_in 14 = .ok (.goto (4), 3) := by decide +kernel
theorem d_Model_in_17 : decode b_Model_in 17 = .ok (.iconst 0, 1) := by decide +kernel
theorem d_Model_in_18 : decode b_Model_in 18 = .ok (.ireturn, 1) := by decide +kernel
set_option maxHeartbeats 4000000 in
set_option maxRecDepth 100000 in
theorem c_Model_in (l : Launch) {dA : FieldType → ClassId} {D : va_G} {al : Nat → Nat} {ext : mv_Sh} {sk sv : Nat → Nat} (hi : mv_inj (mg dA D al ext)) (σ : mv_H) (x9 y9 z9 : Int64) : mv_C l y_Model_in (Cond.code y_Model_in b_Model_in 6 (Option.some Jvm.ClassFile.FieldType.boolean) :: ma) ({ frames := 0, cells := 0, slots := 0, locals := 0 }) (mg dA D al ext) (mK sk sv) [.long x9, .long y9, .long z9] σ (mv_Ri (fun v σ1 => σ1 = σ ∧ (v = 0 ∨ (v = 1 ∧ y9.toInt ≤ x9.toInt ∧ x9.toInt ≤ z9.toInt)))) := by
  refine mv_C.ofV (cc := b_Model_in) (nL := 6) (ret := (Option.some Jvm.ClassFile.FieldType.boolean)) (by decide +kernel) rfl hi (Nat.le_of_ble_eq_true rfl) ?_
  intro p e s m below meth c B hNs hr hnm hno
  refine mv_lload_n (pc := 0) B d_Model_in_0 rfl 0 rfl ?_
  refine mv_lload_n (pc := 1) B d_Model_in_1 rfl 1 rfl ?_
  refine mv_lcmp (pc := 2) B d_Model_in_2 ?_
  refine mv_if_lt (pc := 3) (tgt := 17) B d_Model_in_3 rfl (fun h3 => ?_) (fun h3 => ?_)
  · skip
    refine mv_iconst (pc := 17) (v := 0) B d_Model_in_17 (by decide) ?_
    exact mv_iret (pc := 18) B hr rfl d_Model_in_18 (Nat.le_refl _) (Nat.le_refl _) ⟨_, rfl, rfl, by first | exact Or.inl rfl | exact Or.inr ⟨rfl, by omega, by omega⟩⟩
  · skip
    have k3 := mt (lg_cmp_lt _ _).mpr h3
    rw [Int64.lt_iff_toInt_lt] at k3
    refine mv_lload_n (pc := 6) B d_Model_in_6 rfl 0 rfl ?_
    refine mv_lload (pc := 7) B d_Model_in_7 2 rfl ?_
    refine mv_lcmp (pc := 9) B d_Model_in_9 ?_
    refine mv_if_gt (pc := 10) (tgt := 17) B d_Model_in_10 rfl (fun h10 => ?_) (fun h10 => ?_)
    · skip
      refine mv_iconst (pc := 17) (v := 0) B d_Model_in_17 (by decide) ?_
      exact mv_iret (pc := 18) B hr rfl d_Model_in_18 (Nat.le_refl _) (Nat.le_refl _) ⟨_, rfl, rfl, by first | exact Or.inl rfl | exact Or.inr ⟨rfl, by omega, by omega⟩⟩
    · skip
      have k10 := mt (lg_cmp_gt _ _).mpr h10
      rw [Int64.lt_iff_toInt_lt] at k10
      refine mv_iconst (pc := 13) (v := 1) B d_Model_in_13 (by decide) ?_
      refine mv_goto (pc := 14) (tgt := 18) B d_Model_in_14 rfl ?_
      exact mv_iret (pc := 18) B hr rfl d_Model_in_18 (Nat.le_refl _) (Nat.le_refl _) ⟨_, rfl, rfl, by first | exact Or.inl rfl | exact Or.inr ⟨rfl, by omega, by omega⟩⟩
def y_Book_fault : MethodName := ⟨"MachineLoomModel$Book", "fault", "(II)V"⟩
abbrev b_Book_fault : ByteArray := prog_15_method_20_code
theorem kc_Book_fault : Cond.code y_Book_fault b_Book_fault 3 (Option.none : Option Jvm.ClassFile.FieldType) ∈ ma := ma_of (tb_10 _ (List.mem_of_getElem? (i := 28) rfl)) rfl
theorem k_1885 : (Jvm.Cond.fieldLink "MachineLoomModel$Book" (225 : Nat) "MachineLoomModel$Book" "bestNumber" "I") ∈ ma := ma_of (tb_8 _ (List.mem_of_getElem? (i := 205) rfl)) rfl
theorem k_1883 : (Jvm.Cond.fieldLink "MachineLoomModel$Book" (228 : Nat) "MachineLoomModel$Book" "best" "I") ∈ ma := ma_of (tb_8 _ (List.mem_of_getElem? (i := 203) rfl)) rfl
theorem d_Book_fault_0 : decode b_Book_fault 0 = .ok (.aload_n 0, 1) := by decide +kernel
theorem d_Book_fault_1 : decode b_Book_fault 1 = .ok (.getfield 225, 3) := by decide +kernel
theorem d_Book_fault_4 : decode b_Book_fault 4 = .ok (.ifCond .le (28), 3) := by decide +kernel
theorem d_Book_fault_7 : decode b_Book_fault 7 = .ok (.iload_n 2, 1) := by decide +kernel
theorem d_Book_fault_8 : decode b_Book_fault 8 = .ok (.aload_n 0, 1) := by decide +kernel
theorem d_Book_fault_9 : decode b_Book_fault 9 = .ok (.getfield 228, 3) := by decide +kernel
theorem d_Book_fault_12 : decode b_Book_fault 12 = .ok (.if_icmp .gt (19), 3) := by decide +kernel
theorem d_Book_fault_15 : decode b_Book_fault 15 = .ok (.iload_n 2, 1) := by decide +kernel
theorem d_Book_fault_16 : decode b_Book_fault 16 = .ok (.aload_n 0, 1) := by decide +kernel
theorem d_Book_fault_17 : decode b_Book_fault 17 = .ok (.getfield 228, 3) := by decide +kernel
theorem d_Book_fault_20 : decode b_Book_fault 20 = .ok (.if_icmp .ne (12), 3) := by decide +kernel
theorem d_Book_fault_23 : decode b_Book_fault 23 = .ok (.iload_n 1, 1) := by decide +kernel
theorem d_Book_fault_24 : decode b_Book_fault 24 = .ok (.aload_n 0, 1) := by decide +kernel
theorem d_Book_fault_25 : decode b_Book_fault 25 = .ok (.getfield 225, 3) := by decide +kernel
theorem d_Book_fault_28 : decode b_Book_fault 28 = .ok (.if_icmp .lt (4), 3) := by decide +kernel
theorem d_Book_fault_31 : decode b_Book_fault 31 = .ok (.return_, 1) := by decide +kernel
theorem d_Book_fault_32 : decode b_Book_fault 32 = .ok (.aload_n 0, 1) := by decide +kernel
theorem d_Book_fault_33 : decode b_Book_fault 33 = .ok (.iload_n 2, 1) := by decide +kernel
theorem d_Book_fault_34 : decode b_Book_fault 34 = .ok (.putfield 228, 3) := by decide +kernel
theorem d_Book_fault_37 : decode b_Book_fault 37 = .ok (.aload_n 0, 1) := by decide +kernel
theorem d_Book_fault_38 : decode b_Book_fault 38 = .ok (.iload_n 1, 1) := by decide +kernel
theorem d_Book_fault_39 : decode b_Book_fault 39 = .ok (.putfield 225, 3) := by decide +kernel
theorem d_Book_fault_42 : decode b_Book_fault 42 = .ok (.return_, 1) := by decide +kernel
set_option maxHeartbeats 4000000 in
set_option maxRecDepth 100000 in
theorem c_Book_fault_x (l : Launch) {dA : FieldType → ClassId} {D : va_G} {al : Nat → Nat} {ext : mv_Sh} {sk sv : Nat → Nat} (hi : mv_inj (mg dA D al ext)) (σ : mv_H) (n9 p9 : Int32) (hn : 0 < n9.toInt) : mv_C l y_Book_fault (Cond.code y_Book_fault b_Book_fault 3 (Option.none : Option Jvm.ClassFile.FieldType) :: ma) ({ frames := 0, cells := 0, slots := 0, locals := 0 }) (mg dA D al ext) (mK sk sv) [.ref (al 74), .int n9, .int p9] σ (mv_Rv (fun σ1 => TF 74 σ σ1 ∧ ¬ (mv_i σ1 74 38).toInt ≤ 0 ∧ ∀ k, ¬ (k = 37 ∨ k = 38) → mv_i σ1 74 k = mv_i σ 74 k)) := by
  refine mv_C.ofV (cc := b_Book_fault) (nL := 3) (ret := (Option.none : Option Jvm.ClassFile.FieldType)) (by decide +kernel) rfl hi (Nat.le_of_ble_eq_true rfl) ?_
  intro p e s m below meth c B hNs hr hnm hno
  refine mv_aload_n (pc := 0) B d_Book_fault_0 rfl 0 rfl ?_
  refine mv_getI (pc := 1) (ci := 12) (C := R_Book) (T := F_Book) (N := 65) B 38 rfl rfl (by decide) i_Book (B.2.2.2.1 _ k_1885) rfl d_Book_fault_1 ?_
  refine mv_if_le (pc := 4) (tgt := 32) B d_Book_fault_4 rfl (fun h4 => ?_) (fun h4 => ?_)
  · skip
    refine mv_aload_n (pc := 32) B d_Book_fault_32 rfl 0 rfl ?_
    refine mv_iload_n (pc := 33) B d_Book_fault_33 rfl 2 rfl ?_
    refine mv_putI (pc := 34) (ci := 12) (C := R_Book) (T := F_Book) (N := 65) B 37 rfl rfl (by decide) i_Book t_Book_ok n_Book (B.2.2.2.1 _ k_1883) rfl rfl rfl rfl d_Book_fault_34 ?_
    refine mv_aload_n (pc := 37) B d_Book_fault_37 rfl 0 rfl ?_
    refine mv_iload_n (pc := 38) B d_Book_fault_38 rfl 1 rfl ?_
    refine mv_putI (pc := 39) (ci := 12) (C := R_Book) (T := F_Book) (N := 65) B 38 rfl rfl (by decide) i_Book t_Book_ok n_Book (B.2.2.2.1 _ k_1885) rfl rfl rfl rfl d_Book_fault_39 ?_
    exact mv_vret (pc := 42) B hr d_Book_fault_42 (Nat.le_refl _) (Nat.le_refl _) ⟨rfl, (TF.rf.si (o := 74) (k := 37) (v := p9) (by omega)).si (o := 74) (k := 38) (v := n9) (by omega), (show ¬ n9.toInt ≤ 0 by omega), fun k hk => (mv_si_o _ _ (by omega)).trans (mv_si_o _ _ (by omega))⟩
  · skip
    refine mv_iload_n (pc := 7) B d_Book_fault_7 rfl 2 rfl ?_
    refine mv_aload_n (pc := 8) B d_Book_fault_8 rfl 0 rfl ?_
    refine mv_getI (pc := 9) (ci := 12) (C := R_Book) (T := F_Book) (N := 65) B 37 rfl rfl (by decide) i_Book (B.2.2.2.1 _ k_1883) rfl d_Book_fault_9 ?_
    refine mv_icmp_gt (pc := 12) (tgt := 31) B d_Book_fault_12 rfl (fun h12 => ?_) (fun h12 => ?_)
    · skip
      exact mv_vret (pc := 31) B hr d_Book_fault_31 (Nat.le_refl _) (Nat.le_refl _) ⟨rfl, TF.rf, fun z => h4 (Int32.le_iff_toInt_le.mpr z), fun _ _ => rfl⟩
    · skip
      refine mv_iload_n (pc := 15) B d_Book_fault_15 rfl 2 rfl ?_
      refine mv_aload_n (pc := 16) B d_Book_fault_16 rfl 0 rfl ?_
      refine mv_getI (pc := 17) (ci := 12) (C := R_Book) (T := F_Book) (N := 65) B 37 rfl rfl (by decide) i_Book (B.2.2.2.1 _ k_1883) rfl d_Book_fault_17 ?_
      refine mv_icmp_ne (pc := 20) (tgt := 32) B d_Book_fault_20 rfl (fun h20 => ?_) (fun h20 => ?_)
      · skip
        refine mv_aload_n (pc := 32) B d_Book_fault_32 rfl 0 rfl ?_
        refine mv_iload_n (pc := 33) B d_Book_fault_33 rfl 2 rfl ?_
        refine mv_putI (pc := 34) (ci := 12) (C := R_Book) (T := F_Book) (N := 65) B 37 rfl rfl (by decide) i_Book t_Book_ok n_Book (B.2.2.2.1 _ k_1883) rfl rfl rfl rfl d_Book_fault_34 ?_
        refine mv_aload_n (pc := 37) B d_Book_fault_37 rfl 0 rfl ?_
        refine mv_iload_n (pc := 38) B d_Book_fault_38 rfl 1 rfl ?_
        refine mv_putI (pc := 39) (ci := 12) (C := R_Book) (T := F_Book) (N := 65) B 38 rfl rfl (by decide) i_Book t_Book_ok n_Book (B.2.2.2.1 _ k_1885) rfl rfl rfl rfl d_Book_fault_39 ?_
        exact mv_vret (pc := 42) B hr d_Book_fault_42 (Nat.le_refl _) (Nat.le_refl _) ⟨rfl, (TF.rf.si (o := 74) (k := 37) (v := p9) (by omega)).si (o := 74) (k := 38) (v := n9) (by omega), (show ¬ n9.toInt ≤ 0 by omega), fun k hk => (mv_si_o _ _ (by omega)).trans (mv_si_o _ _ (by omega))⟩
      · skip
        refine mv_iload_n (pc := 23) B d_Book_fault_23 rfl 1 rfl ?_
        refine mv_aload_n (pc := 24) B d_Book_fault_24 rfl 0 rfl ?_
        refine mv_getI (pc := 25) (ci := 12) (C := R_Book) (T := F_Book) (N := 65) B 38 rfl rfl (by decide) i_Book (B.2.2.2.1 _ k_1885) rfl d_Book_fault_25 ?_
        refine mv_icmp_lt (pc := 28) (tgt := 32) B d_Book_fault_28 rfl (fun h28 => ?_) (fun h28 => ?_)
        · skip
          refine mv_aload_n (pc := 32) B d_Book_fault_32 rfl 0 rfl ?_
          refine mv_iload_n (pc := 33) B d_Book_fault_33 rfl 2 rfl ?_
          refine mv_putI (pc := 34) (ci := 12) (C := R_Book) (T := F_Book) (N := 65) B 37 rfl rfl (by decide) i_Book t_Book_ok n_Book (B.2.2.2.1 _ k_1883) rfl rfl rfl rfl d_Book_fault_34 ?_
          refine mv_aload_n (pc := 37) B d_Book_fault_37 rfl 0 rfl ?_
          refine mv_iload_n (pc := 38) B d_Book_fault_38 rfl 1 rfl ?_
          refine mv_putI (pc := 39) (ci := 12) (C := R_Book) (T := F_Book) (N := 65) B 38 rfl rfl (by decide) i_Book t_Book_ok n_Book (B.2.2.2.1 _ k_1885) rfl rfl rfl rfl d_Book_fault_39 ?_
          exact mv_vret (pc := 42) B hr d_Book_fault_42 (Nat.le_refl _) (Nat.le_refl _) ⟨rfl, (TF.rf.si (o := 74) (k := 37) (v := p9) (by omega)).si (o := 74) (k := 38) (v := n9) (by omega), (show ¬ n9.toInt ≤ 0 by omega), fun k hk => (mv_si_o _ _ (by omega)).trans (mv_si_o _ _ (by omega))⟩
        · skip
          exact mv_vret (pc := 31) B hr d_Book_fault_31 (Nat.le_refl _) (Nat.le_refl _) ⟨rfl, TF.rf, fun z => h4 (Int32.le_iff_toInt_le.mpr z), fun _ _ => rfl⟩
set_option maxHeartbeats 4000000 in
set_option maxRecDepth 100000 in
theorem c_Book_fault_y (l : Launch) {dA : FieldType → ClassId} {D : va_G} {al : Nat → Nat} {ext : mv_Sh} {sk sv : Nat → Nat} (hi : mv_inj (mg dA D al ext)) (σ : mv_H) (n9 p9 : Int32) (hn : 0 < n9.toInt) : mv_C l y_Book_fault (Cond.code y_Book_fault b_Book_fault 3 (Option.none : Option Jvm.ClassFile.FieldType) :: ma) ({ frames := 0, cells := 0, slots := 0, locals := 0 }) (mg dA D al ext) (mK sk sv) [.ref (al 108), .int n9, .int p9] σ (mv_Rv (fun σ1 => TF 108 σ σ1 ∧ ¬ (mv_i σ1 108 38).toInt ≤ 0 ∧ ∀ k, ¬ (k = 37 ∨ k = 38) → mv_i σ1 108 k = mv_i σ 108 k)) := by
  refine mv_C.ofV (cc := b_Book_fault) (nL := 3) (ret := (Option.none : Option Jvm.ClassFile.FieldType)) (by decide +kernel) rfl hi (Nat.le_of_ble_eq_true rfl) ?_
  intro p e s m below meth c B hNs hr hnm hno
  refine mv_aload_n (pc := 0) B d_Book_fault_0 rfl 0 rfl ?_
  refine mv_getI (pc := 1) (ci := 12) (C := R_Book) (T := F_Book) (N := 65) B 38 rfl rfl (by decide) i_Book (B.2.2.2.1 _ k_1885) rfl d_Book_fault_1 ?_
  refine mv_if_le (pc := 4) (tgt := 32) B d_Book_fault_4 rfl (fun h4 => ?_) (fun h4 => ?_)
  · skip
    refine mv_aload_n (pc := 32) B d_Book_fault_32 rfl 0 rfl ?_
    refine mv_iload_n (pc := 33) B d_Book_fault_33 rfl 2 rfl ?_
    refine mv_putI (pc := 34) (ci := 12) (C := R_Book) (T := F_Book) (N := 65) B 37 rfl rfl (by decide) i_Book t_Book_ok n_Book (B.2.2.2.1 _ k_1883) rfl rfl rfl rfl d_Book_fault_34 ?_
    refine mv_aload_n (pc := 37) B d_Book_fault_37 rfl 0 rfl ?_
    refine mv_iload_n (pc := 38) B d_Book_fault_38 rfl 1 rfl ?_
    refine mv_putI (pc := 39) (ci := 12) (C := R_Book) (T := F_Book) (N := 65) B 38 rfl rfl (by decide) i_Book t_Book_ok n_Book (B.2.2.2.1 _ k_1885) rfl rfl rfl rfl d_Book_fault_39 ?_
    exact mv_vret (pc := 42) B hr d_Book_fault_42 (Nat.le_refl _) (Nat.le_refl _) ⟨rfl, (TF.rf.si (o := 108) (k := 37) (v := p9) (by omega)).si (o := 108) (k := 38) (v := n9) (by omega), (show ¬ n9.toInt ≤ 0 by omega), fun k hk => (mv_si_o _ _ (by omega)).trans (mv_si_o _ _ (by omega))⟩
  · skip
    refine mv_iload_n (pc := 7) B d_Book_fault_7 rfl 2 rfl ?_
    refine mv_aload_n (pc := 8) B d_Book_fault_8 rfl 0 rfl ?_
    refine mv_getI (pc := 9) (ci := 12) (C := R_Book) (T := F_Book) (N := 65) B 37 rfl rfl (by decide) i_Book (B.2.2.2.1 _ k_1883) rfl d_Book_fault_9 ?_
    refine mv_icmp_gt (pc := 12) (tgt := 31) B d_Book_fault_12 rfl (fun h12 => ?_) (fun h12 => ?_)
    · skip
      exact mv_vret (pc := 31) B hr d_Book_fault_31 (Nat.le_refl _) (Nat.le_refl _) ⟨rfl, TF.rf, fun z => h4 (Int32.le_iff_toInt_le.mpr z), fun _ _ => rfl⟩
    · skip
      refine mv_iload_n (pc := 15) B d_Book_fault_15 rfl 2 rfl ?_
      refine mv_aload_n (pc := 16) B d_Book_fault_16 rfl 0 rfl ?_
      refine mv_getI (pc := 17) (ci := 12) (C := R_Book) (T := F_Book) (N := 65) B 37 rfl rfl (by decide) i_Book (B.2.2.2.1 _ k_1883) rfl d_Book_fault_17 ?_
      refine mv_icmp_ne (pc := 20) (tgt := 32) B d_Book_fault_20 rfl (fun h20 => ?_) (fun h20 => ?_)
      · skip
        refine mv_aload_n (pc := 32) B d_Book_fault_32 rfl 0 rfl ?_
        refine mv_iload_n (pc := 33) B d_Book_fault_33 rfl 2 rfl ?_
        refine mv_putI (pc := 34) (ci := 12) (C := R_Book) (T := F_Book) (N := 65) B 37 rfl rfl (by decide) i_Book t_Book_ok n_Book (B.2.2.2.1 _ k_1883) rfl rfl rfl rfl d_Book_fault_34 ?_
        refine mv_aload_n (pc := 37) B d_Book_fault_37 rfl 0 rfl ?_
        refine mv_iload_n (pc := 38) B d_Book_fault_38 rfl 1 rfl ?_
        refine mv_putI (pc := 39) (ci := 12) (C := R_Book) (T := F_Book) (N := 65) B 38 rfl rfl (by decide) i_Book t_Book_ok n_Book (B.2.2.2.1 _ k_1885) rfl rfl rfl rfl d_Book_fault_39 ?_
        exact mv_vret (pc := 42) B hr d_Book_fault_42 (Nat.le_refl _) (Nat.le_refl _) ⟨rfl, (TF.rf.si (o := 108) (k := 37) (v := p9) (by omega)).si (o := 108) (k := 38) (v := n9) (by omega), (show ¬ n9.toInt ≤ 0 by omega), fun k hk => (mv_si_o _ _ (by omega)).trans (mv_si_o _ _ (by omega))⟩
      · skip
        refine mv_iload_n (pc := 23) B d_Book_fault_23 rfl 1 rfl ?_
        refine mv_aload_n (pc := 24) B d_Book_fault_24 rfl 0 rfl ?_
        refine mv_getI (pc := 25) (ci := 12) (C := R_Book) (T := F_Book) (N := 65) B 38 rfl rfl (by decide) i_Book (B.2.2.2.1 _ k_1885) rfl d_Book_fault_25 ?_
        refine mv_icmp_lt (pc := 28) (tgt := 32) B d_Book_fault_28 rfl (fun h28 => ?_) (fun h28 => ?_)
        · skip
          refine mv_aload_n (pc := 32) B d_Book_fault_32 rfl 0 rfl ?_
          refine mv_iload_n (pc := 33) B d_Book_fault_33 rfl 2 rfl ?_
          refine mv_putI (pc := 34) (ci := 12) (C := R_Book) (T := F_Book) (N := 65) B 37 rfl rfl (by decide) i_Book t_Book_ok n_Book (B.2.2.2.1 _ k_1883) rfl rfl rfl rfl d_Book_fault_34 ?_
          refine mv_aload_n (pc := 37) B d_Book_fault_37 rfl 0 rfl ?_
          refine mv_iload_n (pc := 38) B d_Book_fault_38 rfl 1 rfl ?_
          refine mv_putI (pc := 39) (ci := 12) (C := R_Book) (T := F_Book) (N := 65) B 38 rfl rfl (by decide) i_Book t_Book_ok n_Book (B.2.2.2.1 _ k_1885) rfl rfl rfl rfl d_Book_fault_39 ?_
          exact mv_vret (pc := 42) B hr d_Book_fault_42 (Nat.le_refl _) (Nat.le_refl _) ⟨rfl, (TF.rf.si (o := 108) (k := 37) (v := p9) (by omega)).si (o := 108) (k := 38) (v := n9) (by omega), (show ¬ n9.toInt ≤ 0 by omega), fun k hk => (mv_si_o _ _ (by omega)).trans (mv_si_o _ _ (by omega))⟩
        · skip
          exact mv_vret (pc := 31) B hr d_Book_fault_31 (Nat.le_refl _) (Nat.le_refl _) ⟨rfl, TF.rf, fun z => h4 (Int32.le_iff_toInt_le.mpr z), fun _ _ => rfl⟩
def y_Book_same : MethodName := ⟨"MachineLoomModel$Book", "same", "(IIII)Z"⟩
abbrev b_Book_same : ByteArray := prog_15_method_21_code
theorem kc_Book_same : Cond.code y_Book_same b_Book_same 6 (Option.some Jvm.ClassFile.FieldType.boolean) ∈ ma := ma_of (tb_10 _ (List.mem_of_getElem? (i := 59) rfl)) rfl
theorem d_Book_same_0 : decode b_Book_same 0 = .ok (.iload_n 2, 1) := by decide +kernel
theorem d_Book_same_1 : decode b_Book_same 1 = .ok (.iload_n 1, 1) := by decide +kernel
theorem d_Book_same_2 : decode b_Book_same 2 = .ok (.isub, 1) := by decide +kernel
theorem d_Book_same_3 : decode b_Book_same 3 = .ok (.iload 4, 2) := by decide +kernel
theorem d_Book_same_5 : decode b_Book_same 5 = .ok (.iload_n 3, 1) := by decide +kernel
theorem d_Book_same_6 : decode b_Book_same 6 = .ok (.isub, 1) := by decide +kernel
theorem d_Book_same_7 : decode b_Book_same 7 = .ok (.if_icmp .eq (5), 3) := by decide +kernel
theorem d_Book_same_10 : decode b_Book_same 10 = .ok (.iconst 0, 1) := by decide +kernel
theorem d_Book_same_11 : decode b_Book_same 11 = .ok (.ireturn, 1) := by decide +kernel
theorem d_Book_same_12 : decode b_Book_same 12 = .ok (.iconst 0, 1) := by decide +kernel
theorem d_Book_same_13 : decode b_Book_same 13 = .ok (.istore 5, 2) := by decide +kernel
theorem d_Book_same_15 : decode b_Book_same 15 = .ok (.iload 5, 2) := by decide +kernel
theorem d_Book_same_17 : decode b_Book_same 17 = .ok (.iload_n 2, 1) := by decide +kernel
theorem d_Book_same_18 : decode b_Book_same 18 = .ok (.iload_n 1, 1) := by decide +kernel
theorem d_Book_same_19 : decode b_Book_same 19 = .ok (.isub, 1) := by decide +kernel
theorem d_Book_same_20 : decode b_Book_same 20 = .ok (.if_icmp .ge (32), 3) := by decide +kernel
theorem d_Book_same_23 : decode b_Book_same 23 = .ok (.aload_n 0, 1) := by decide +kernel
theorem d_Book_same_24 : decode b_Book_same 24 = .ok (.getfield 135, 3) := by decide +kernel
theorem d_Book_same_27 : decode b_Book_same 27 = .ok (.iload_n 1, 1) := by decide +kernel
theorem d_Book_same_28 : decode b_Book_same 28 = .ok (.iload 5, 2) := by decide +kernel
theorem d_Book_same_30 : decode b_Book_same 30 = .ok (.iadd, 1) := by decide +kernel
theorem d_Book_same_31 : decode b_Book_same 31 = .ok (.baload, 1) := by decide +kernel
theorem d_Book_same_32 : decode b_Book_same 32 = .ok (.aload_n 0, 1) := by decide +kernel
theorem d_Book_same_33 : decode b_Book_same 33 = .ok (.getfield 135, 3) := by decide +kernel
theorem d_Book_same_36 : decode b_Book_same 36 = .ok (.iload_n 3, 1) := by decide +kernel
theorem d_Book_same_37 : decode b_Book_same 37 = .ok (.iload 5, 2) := by decide +kernel
theorem d_Book_same_39 : decode b_Book_same 39 = .ok (.iadd, 1) := by decide +kernel
theorem d_Book_same_40 : decode b_Book_same 40 = .ok (.baload, 1) := by decide +kernel
theorem d_Book_same_41 : decode b_Book_same 41 = .ok (.if_icmp .eq (5), 3) := by decide +kernel
theorem d_Book_same_44 : decode b_Book_same 44 = .ok (.iconst 0, 1) := by decide +kernel
theorem d_Book_same_45 : decode b_Book_same 45 = .ok (.ireturn, 1) := by decide +kernel
theorem d_Book_same_46 : decode b_Book_same 46 = .ok (.iinc 5 (1), 3) := by decide +kernel
theorem d_Book_same_49 : decode b_Book_same 49 = .ok (.goto (-34), 3) := by decide +kernel
theorem d_Book_same_52 : decode b_Book_same 52 = .ok (.iconst 1, 1) := by decide +kernel
theorem d_Book_same_53 : decode b_Book_same 53 = .ok (.ireturn, 1) := by decide +kernel
set_option maxHeartbeats 4000000 in
set_option maxRecDepth 100000 in
theorem c_Book_same_x (l : Launch) {dA : FieldType → ClassId} {D : va_G} {al : Nat → Nat} {ext : mv_Sh} {sk sv : Nat → Nat} (hi : mv_inj (mg dA D al ext)) (σ : mv_H) (a9 b9 c9 d9 : Int32) (len : Nat) (hR : Br 74 (mv_r σ)) (hl : len ≤ 10240) (h1 : Sp len a9 b9) (h2 : Sp len c9 d9) : mv_C l y_Book_same (Cond.code y_Book_same b_Book_same 6 (Option.some Jvm.ClassFile.FieldType.boolean) :: ma) ({ frames := 0, cells := 0, slots := 0, locals := 0 }) (mg dA D al ext) (mK sk sv) [.ref (al 74), .int a9, .int b9, .int c9, .int d9] σ (mv_Ri (fun v σ1 => σ1 = σ)) := by
  refine mv_C.ofV (cc := b_Book_same) (nL := 6) (ret := (Option.some Jvm.ClassFile.FieldType.boolean)) (by decide +kernel) rfl hi (Nat.le_of_ble_eq_true rfl) ?_
  intro p e s m below meth c B hNs hr hnm hno
  obtain ⟨g1, g2, g3⟩ := h1
  obtain ⟨g4, g5, g6⟩ := h2
  have lp : ∀ (nn : Nat) (i9 : Int32) (q0 : 0 ≤ i9.toInt) (hd : b9.toInt - a9.toInt = d9.toInt - c9.toInt), (20000 - i9.toInt).toNat < nn → mv_V p l e ({ frames := 0, cells := 0, slots := 0, locals := 0 }) s m ([.ref (al 74), .int a9, .int b9, .int c9, .int d9] : List Value).toArray below meth c (mg dA D al ext) 6 0 0 (mv_Q (mg dA D al ext) below s 0 0 (mv_Ri (fun v σ1 => σ1 = σ))) σ 15 [(5, .int i9), (0, .ref (al 74)), (1, .int a9), (2, .int b9), (3, .int c9), (4, .int d9)] [] := by
    intro nn
    induction nn with
    | zero => intro i9 q0 hd hm; exact absurd hm (Nat.not_lt_zero _)
    | succ nn ih =>
      intro i9 q0 hd hm
      refine mv_iload (pc := 15) B d_Book_same_15 0 rfl ?_
      refine mv_iload_n (pc := 17) B d_Book_same_17 rfl 3 rfl ?_
      refine mv_iload_n (pc := 18) B d_Book_same_18 rfl 2 rfl ?_
      refine mv_isub (pc := 19) B d_Book_same_19 ?_
      refine mv_topi (fun y19 ey19 => ?_)
      have fy19 := i32_subE ey19 (by (try simp only [Int32.reduceToInt]); omega) (by (try simp only [Int32.reduceToInt]); omega)
      try simp only [Int32.reduceToInt] at fy19
      refine mv_icmp_ge (pc := 20) (tgt := 52) B d_Book_same_20 rfl (fun h20 => ?_) (fun h20 => ?_)
      · skip
        refine mv_iconst (pc := 52) (v := 1) B d_Book_same_52 (by decide) ?_
        exact mv_iret (pc := 53) B hr rfl d_Book_same_53 (Nat.le_refl _) (Nat.le_refl _) ⟨_, rfl, rfl⟩
      · skip
        rw [Int32.le_iff_toInt_le] at h20
        have w2 : (i9 + 1).toInt = i9.toInt + 1 := i32_inc (by omega)
        refine mv_aload_n (pc := 23) B d_Book_same_23 rfl 1 rfl ?_
        refine mv_getR (pc := 24) (ci := 12) (C := R_Book) (T := F_Book) (N := 65) B 1 rfl rfl (by decide) i_Book (B.2.2.2.1 _ k_1844) rfl hR.2 d_Book_same_24 ?_
        refine mv_iload_n (pc := 27) B d_Book_same_27 rfl 2 rfl ?_
        refine mv_iload (pc := 28) B d_Book_same_28 0 rfl ?_
        refine mv_iadd (pc := 30) B d_Book_same_30 ?_
        refine mv_topi (fun y30 ey30 => ?_)
        have fy30 := i32_addE ey30 (by (try simp only [Int32.reduceToInt]); omega) (by (try simp only [Int32.reduceToInt]); omega)
        try simp only [Int32.reduceToInt] at fy30
        refine mv_bald (pc := 31) B rfl (i32_in (show 0 ≤ y30.toInt by omega) (show y30.toInt < 32768 by omega)) d_Book_same_31 ?_
        refine mv_aload_n (pc := 32) B d_Book_same_32 rfl 1 rfl ?_
        refine mv_getR (pc := 33) (ci := 12) (C := R_Book) (T := F_Book) (N := 65) B 1 rfl rfl (by decide) i_Book (B.2.2.2.1 _ k_1844) rfl hR.2 d_Book_same_33 ?_
        refine mv_iload_n (pc := 36) B d_Book_same_36 rfl 4 rfl ?_
        refine mv_iload (pc := 37) B d_Book_same_37 0 rfl ?_
        refine mv_iadd (pc := 39) B d_Book_same_39 ?_
        refine mv_topi (fun y39 ey39 => ?_)
        have fy39 := i32_addE ey39 (by (try simp only [Int32.reduceToInt]); omega) (by (try simp only [Int32.reduceToInt]); omega)
        try simp only [Int32.reduceToInt] at fy39
        refine mv_bald (pc := 40) B rfl (i32_in (show 0 ≤ y39.toInt by omega) (show y39.toInt < 32768 by omega)) d_Book_same_40 ?_
        refine mv_icmp_eq (pc := 41) (tgt := 46) B d_Book_same_41 rfl (fun h41 => ?_) (fun h41 => ?_)
        · skip
          refine mv_iinc (pc := 46) (j := 0) (v := 1) B d_Book_same_46 rfl (by decide) (by decide) rfl ?_
          refine mv_goto (pc := 49) (tgt := 15) B d_Book_same_49 rfl ?_
          refine mv_lpick [0, 1, 2, 3, 4, 5] rfl ?_
          exact ih _ (by omega) hd (by omega)
        · skip
          refine mv_iconst (pc := 44) (v := 0) B d_Book_same_44 (by decide) ?_
          exact mv_iret (pc := 45) B hr rfl d_Book_same_45 (Nat.le_refl _) (Nat.le_refl _) ⟨_, rfl, rfl⟩
  refine mv_iload_n (pc := 0) B d_Book_same_0 rfl 2 rfl ?_
  refine mv_iload_n (pc := 1) B d_Book_same_1 rfl 1 rfl ?_
  refine mv_isub (pc := 2) B d_Book_same_2 ?_
  refine mv_topi (fun y2 ey2 => ?_)
  have fy2 := i32_subE ey2 (by (try simp only [Int32.reduceToInt]); omega) (by (try simp only [Int32.reduceToInt]); omega)
  try simp only [Int32.reduceToInt] at fy2
  refine mv_iload (pc := 3) B d_Book_same_3 4 rfl ?_
  refine mv_iload_n (pc := 5) B d_Book_same_5 rfl 3 rfl ?_
  refine mv_isub (pc := 6) B d_Book_same_6 ?_
  refine mv_topi (fun y6 ey6 => ?_)
  have fy6 := i32_subE ey6 (by (try simp only [Int32.reduceToInt]); omega) (by (try simp only [Int32.reduceToInt]); omega)
  try simp only [Int32.reduceToInt] at fy6
  refine mv_icmp_eq (pc := 7) (tgt := 12) B d_Book_same_7 rfl (fun h7 => ?_) (fun h7 => ?_)
  · skip
    have hd : b9.toInt - a9.toInt = d9.toInt - c9.toInt := by rw [← fy2, ← fy6, h7]
    refine mv_iconst (pc := 12) (v := 0) B d_Book_same_12 (by decide) ?_
    refine mv_istore (pc := 13) B d_Book_same_13 (by decide) rfl ?_
    refine mv_lpick [0, 1, 2, 3, 4, 5] rfl ?_
    exact lp _ _ (by decide) hd (Nat.lt_succ_self _)
  · skip
    refine mv_iconst (pc := 10) (v := 0) B d_Book_same_10 (by decide) ?_
    exact mv_iret (pc := 11) B hr rfl d_Book_same_11 (Nat.le_refl _) (Nat.le_refl _) ⟨_, rfl, rfl⟩
set_option maxHeartbeats 4000000 in
set_option maxRecDepth 100000 in
theorem c_Book_same_y (l : Launch) {dA : FieldType → ClassId} {D : va_G} {al : Nat → Nat} {ext : mv_Sh} {sk sv : Nat → Nat} (hi : mv_inj (mg dA D al ext)) (σ : mv_H) (a9 b9 c9 d9 : Int32) (len : Nat) (hR : Br 108 (mv_r σ)) (hl : len ≤ 10240) (h1 : Sp len a9 b9) (h2 : Sp len c9 d9) : mv_C l y_Book_same (Cond.code y_Book_same b_Book_same 6 (Option.some Jvm.ClassFile.FieldType.boolean) :: ma) ({ frames := 0, cells := 0, slots := 0, locals := 0 }) (mg dA D al ext) (mK sk sv) [.ref (al 108), .int a9, .int b9, .int c9, .int d9] σ (mv_Ri (fun v σ1 => σ1 = σ)) := by
  refine mv_C.ofV (cc := b_Book_same) (nL := 6) (ret := (Option.some Jvm.ClassFile.FieldType.boolean)) (by decide +kernel) rfl hi (Nat.le_of_ble_eq_true rfl) ?_
  intro p e s m below meth c B hNs hr hnm hno
  obtain ⟨g1, g2, g3⟩ := h1
  obtain ⟨g4, g5, g6⟩ := h2
  have lp : ∀ (nn : Nat) (i9 : Int32) (q0 : 0 ≤ i9.toInt) (hd : b9.toInt - a9.toInt = d9.toInt - c9.toInt), (20000 - i9.toInt).toNat < nn → mv_V p l e ({ frames := 0, cells := 0, slots := 0, locals := 0 }) s m ([.ref (al 108), .int a9, .int b9, .int c9, .int d9] : List Value).toArray below meth c (mg dA D al ext) 6 0 0 (mv_Q (mg dA D al ext) below s 0 0 (mv_Ri (fun v σ1 => σ1 = σ))) σ 15 [(5, .int i9), (0, .ref (al 108)), (1, .int a9), (2, .int b9), (3, .int c9), (4, .int d9)] [] := by
    intro nn
    induction nn with
    | zero => intro i9 q0 hd hm; exact absurd hm (Nat.not_lt_zero _)
    | succ nn ih =>
      intro i9 q0 hd hm
      refine mv_iload (pc := 15) B d_Book_same_15 0 rfl ?_
      refine mv_iload_n (pc := 17) B d_Book_same_17 rfl 3 rfl ?_
      refine mv_iload_n (pc := 18) B d_Book_same_18 rfl 2 rfl ?_
      refine mv_isub (pc := 19) B d_Book_same_19 ?_
      refine mv_topi (fun y19 ey19 => ?_)
      have fy19 := i32_subE ey19 (by (try simp only [Int32.reduceToInt]); omega) (by (try simp only [Int32.reduceToInt]); omega)
      try simp only [Int32.reduceToInt] at fy19
      refine mv_icmp_ge (pc := 20) (tgt := 52) B d_Book_same_20 rfl (fun h20 => ?_) (fun h20 => ?_)
      · skip
        refine mv_iconst (pc := 52) (v := 1) B d_Book_same_52 (by decide) ?_
        exact mv_iret (pc := 53) B hr rfl d_Book_same_53 (Nat.le_refl _) (Nat.le_refl _) ⟨_, rfl, rfl⟩
      · skip
        rw [Int32.le_iff_toInt_le] at h20
        have w2 : (i9 + 1).toInt = i9.toInt + 1 := i32_inc (by omega)
        refine mv_aload_n (pc := 23) B d_Book_same_23 rfl 1 rfl ?_
        refine mv_getR (pc := 24) (ci := 12) (C := R_Book) (T := F_Book) (N := 65) B 1 rfl rfl (by decide) i_Book (B.2.2.2.1 _ k_1844) rfl hR.2 d_Book_same_24 ?_
        refine mv_iload_n (pc := 27) B d_Book_same_27 rfl 2 rfl ?_
        refine mv_iload (pc := 28) B d_Book_same_28 0 rfl ?_
        refine mv_iadd (pc := 30) B d_Book_same_30 ?_
        refine mv_topi (fun y30 ey30 => ?_)
        have fy30 := i32_addE ey30 (by (try simp only [Int32.reduceToInt]); omega) (by (try simp only [Int32.reduceToInt]); omega)
        try simp only [Int32.reduceToInt] at fy30
        refine mv_bald (pc := 31) B rfl (i32_in (show 0 ≤ y30.toInt by omega) (show y30.toInt < 32768 by omega)) d_Book_same_31 ?_
        refine mv_aload_n (pc := 32) B d_Book_same_32 rfl 1 rfl ?_
        refine mv_getR (pc := 33) (ci := 12) (C := R_Book) (T := F_Book) (N := 65) B 1 rfl rfl (by decide) i_Book (B.2.2.2.1 _ k_1844) rfl hR.2 d_Book_same_33 ?_
        refine mv_iload_n (pc := 36) B d_Book_same_36 rfl 4 rfl ?_
        refine mv_iload (pc := 37) B d_Book_same_37 0 rfl ?_
        refine mv_iadd (pc := 39) B d_Book_same_39 ?_
        refine mv_topi (fun y39 ey39 => ?_)
        have fy39 := i32_addE ey39 (by (try simp only [Int32.reduceToInt]); omega) (by (try simp only [Int32.reduceToInt]); omega)
        try simp only [Int32.reduceToInt] at fy39
        refine mv_bald (pc := 40) B rfl (i32_in (show 0 ≤ y39.toInt by omega) (show y39.toInt < 32768 by omega)) d_Book_same_40 ?_
        refine mv_icmp_eq (pc := 41) (tgt := 46) B d_Book_same_41 rfl (fun h41 => ?_) (fun h41 => ?_)
        · skip
          refine mv_iinc (pc := 46) (j := 0) (v := 1) B d_Book_same_46 rfl (by decide) (by decide) rfl ?_
          refine mv_goto (pc := 49) (tgt := 15) B d_Book_same_49 rfl ?_
          refine mv_lpick [0, 1, 2, 3, 4, 5] rfl ?_
          exact ih _ (by omega) hd (by omega)
        · skip
          refine mv_iconst (pc := 44) (v := 0) B d_Book_same_44 (by decide) ?_
          exact mv_iret (pc := 45) B hr rfl d_Book_same_45 (Nat.le_refl _) (Nat.le_refl _) ⟨_, rfl, rfl⟩
  refine mv_iload_n (pc := 0) B d_Book_same_0 rfl 2 rfl ?_
  refine mv_iload_n (pc := 1) B d_Book_same_1 rfl 1 rfl ?_
  refine mv_isub (pc := 2) B d_Book_same_2 ?_
  refine mv_topi (fun y2 ey2 => ?_)
  have fy2 := i32_subE ey2 (by (try simp only [Int32.reduceToInt]); omega) (by (try simp only [Int32.reduceToInt]); omega)
  try simp only [Int32.reduceToInt] at fy2
  refine mv_iload (pc := 3) B d_Book_same_3 4 rfl ?_
  refine mv_iload_n (pc := 5) B d_Book_same_5 rfl 3 rfl ?_
  refine mv_isub (pc := 6) B d_Book_same_6 ?_
  refine mv_topi (fun y6 ey6 => ?_)
  have fy6 := i32_subE ey6 (by (try simp only [Int32.reduceToInt]); omega) (by (try simp only [Int32.reduceToInt]); omega)
  try simp only [Int32.reduceToInt] at fy6
  refine mv_icmp_eq (pc := 7) (tgt := 12) B d_Book_same_7 rfl (fun h7 => ?_) (fun h7 => ?_)
  · skip
    have hd : b9.toInt - a9.toInt = d9.toInt - c9.toInt := by rw [← fy2, ← fy6, h7]
    refine mv_iconst (pc := 12) (v := 0) B d_Book_same_12 (by decide) ?_
    refine mv_istore (pc := 13) B d_Book_same_13 (by decide) rfl ?_
    refine mv_lpick [0, 1, 2, 3, 4, 5] rfl ?_
    exact lp _ _ (by decide) hd (Nat.lt_succ_self _)
  · skip
    refine mv_iconst (pc := 10) (v := 0) B d_Book_same_10 (by decide) ?_
    exact mv_iret (pc := 11) B hr rfl d_Book_same_11 (Nat.le_refl _) (Nat.le_refl _) ⟨_, rfl, rfl⟩
def y_Book_thing : MethodName := ⟨"MachineLoomModel$Book", "thing", "(II)I"⟩
abbrev b_Book_thing : ByteArray := prog_15_method_22_code
theorem kc_Book_thing : Cond.code y_Book_thing b_Book_thing 4 (Option.some Jvm.ClassFile.FieldType.int) ∈ ma := ma_of (tb_10 _ (List.mem_of_getElem? (i := 55) rfl)) rfl
theorem k_1860 : (Jvm.Cond.fieldLink "MachineLoomModel$Book" (231 : Nat) "MachineLoomModel$Book" "things" "I") ∈ ma := ma_of (tb_8 _ (List.mem_of_getElem? (i := 180) rfl)) rfl
theorem k_1853 : (Jvm.Cond.fieldLink "MachineLoomModel$Book" (16 : Nat) "MachineLoomModel$Book" "thingFrom" "[I") ∈ ma := ma_of (tb_8 _ (List.mem_of_getElem? (i := 173) rfl)) rfl
theorem k_1854 : (Jvm.Cond.fieldLink "MachineLoomModel$Book" (20 : Nat) "MachineLoomModel$Book" "thingTo" "[I") ∈ ma := ma_of (tb_8 _ (List.mem_of_getElem? (i := 174) rfl)) rfl
theorem k_2216 : (Jvm.Cond.methodLink "MachineLoomModel$Book" (234 : Nat) ({ cls := "MachineLoomModel$Book", name := "same", desc := "(IIII)Z" } : Jvm.MethodName)) ∈ ma := ma_of (tb_10 _ (List.mem_of_getElem? (i := 56) rfl)) rfl
theorem k_2218 : (Jvm.Cond.instanceMethod ({ cls := "MachineLoomModel$Book", name := "same", desc := "(IIII)Z" } : Jvm.MethodName)) ∈ ma := ma_of (tb_10 _ (List.mem_of_getElem? (i := 58) rfl)) rfl
theorem ks_98 : Cond.selects "MachineLoomModel$Book" ⟨"MachineLoomModel$Book", "same", "(IIII)Z"⟩ ⟨"MachineLoomModel$Book", "same", "(IIII)Z"⟩ ∈ ma := ma_sel 98 rfl rfl
theorem d_Book_thing_0 : decode b_Book_thing 0 = .ok (.iconst 0, 1) := by decide +kernel
theorem d_Book_thing_1 : decode b_Book_thing 1 = .ok (.istore_n 3, 1) := by decide +kernel
theorem d_Book_thing_2 : decode b_Book_thing 2 = .ok (.iload_n 3, 1) := by decide +kernel
theorem d_Book_thing_3 : decode b_Book_thing 3 = .ok (.aload_n 0, 1) := by decide +kernel
theorem d_Book_thing_4 : decode b_Book_thing 4 = .ok (.getfield 231, 3) := by decide +kernel
theorem d_Book_thing_7 : decode b_Book_thing 7 = .ok (.if_icmp .ge (32), 3) := by decide +kernel
theorem d_Book_thing_10 : decode b_Book_thing 10 = .ok (.aload_n 0, 1) := by decide +kernel
theorem d_Book_thing_11 : decode b_Book_thing 11 = .ok (.aload_n 0, 1) := by decide +kernel
theorem d_Book_thing_12 : decode b_Book_thing 12 = .ok (.getfield 16, 3) := by decide +kernel
theorem d_Book_thing_15 : decode b_Book_thing 15 = .ok (.iload_n 3, 1) := by decide +kernel
theorem d_Book_thing_16 : decode b_Book_thing 16 = .ok (.iaload, 1) := by decide +kernel
theorem d_Book_thing_17 : decode b_Book_thing 17 = .ok (.aload_n 0, 1) := by decide +kernel
theorem d_Book_thing_18 : decode b_Book_thing 18 = .ok (.getfield 20, 3) := by decide +kernel
theorem d_Book_thing_21 : decode b_Book_thing 21 = .ok (.iload_n 3, 1) := by decide +kernel
theorem d_Book_thing_22 : decode b_Book_thing 22 = .ok (.iaload, 1) := by decide +kernel
theorem d_Book_thing_23 : decode b_Book_thing 23 = .ok (.iload_n 1, 1) := by decide +kernel
theorem d_Book_thing_24 : decode b_Book_thing 24 = .ok (.iload_n 2, 1) := by decide +kernel
theorem d_Book_thing_25 : decode b_Book_thing 25 = .ok (.invokevirtual 234, 3) := by decide +kernel
theorem d_Book_thing_28 : decode b_Book_thing 28 = .ok (.ifCond .eq (5), 3) := by decide +kernel
theorem d_Book_thing_31 : decode b_Book_thing 31 = .ok (.iload_n 3, 1) := by decide +kernel
theorem d_Book_thing_32 : decode b_Book_thing 32 = .ok (.ireturn, 1) := by decide +kernel
theorem d_Book_thing_33 : decode b_Book_thing 33 = .ok (.iinc 3 (1), 3) := by decide +kernel
theorem d_Book_thing_36 : decode b_Book_thing 36 = .ok (.goto (-34), 3) := by decide +kernel
theorem d_Book_thing_39 : decode b_Book_thing 39 = .ok (.iconst (-1), 1) := by decide +kernel
theorem d_Book_thing_40 : decode b_Book_thing 40 = .ok (.ireturn, 1) := by decide +kernel
set_option maxHeartbeats 4000000 in
set_option maxRecDepth 100000 in
theorem c_Book_thing_x (l : Launch) {dA : FieldType → ClassId} {D : va_G} {al : Nat → Nat} {ext : mv_Sh} {sk sv : Nat → Nat} (hi : mv_inj (mg dA D al ext)) (σ : mv_H) (a9 b9 : Int32) (len : Nat) (hR : Br 74 (mv_r σ)) (hl : len ≤ 10240) (hT : NT 74 len σ) (h1 : Sp len a9 b9) : mv_C l y_Book_thing (Cond.code y_Book_thing b_Book_thing 4 (Option.some Jvm.ClassFile.FieldType.int) :: ma) ({ frames := 1, cells := 0, slots := 0, locals := 25 }) (mg dA D al ext) (mK sk sv) [.ref (al 74), .int a9, .int b9] σ (mv_Ri (fun v σ1 => σ1 = σ ∧ (v = -1 ∨ (0 ≤ v.toInt ∧ v.toInt < (mv_i σ 74 17).toInt)))) := by
  refine mv_C.ofV (cc := b_Book_thing) (nL := 4) (ret := (Option.some Jvm.ClassFile.FieldType.int)) (by decide +kernel) rfl hi (Nat.le_of_ble_eq_true rfl) ?_
  intro p e s m below meth c B hNs hr hnm hno
  have hT1 := hT.1
  have hT2 := hT.2.1
  have lp : ∀ (nn : Nat) (t9 : Int32) (q0 : 0 ≤ t9.toInt), (20000 - t9.toInt).toNat < nn → mv_V p l e ({ frames := 1, cells := 0, slots := 0, locals := 25 }) s m ([.ref (al 74), .int a9, .int b9] : List Value).toArray below meth c (mg dA D al ext) 4 0 0 (mv_Q (mg dA D al ext) below s 0 0 (mv_Ri (fun v σ1 => σ1 = σ ∧ (v = -1 ∨ (0 ≤ v.toInt ∧ v.toInt < (mv_i σ 74 17).toInt))))) σ 2 [(3, .int t9), (0, .ref (al 74)), (1, .int a9), (2, .int b9)] [] := by
    intro nn
    induction nn with
    | zero => intro t9 q0 hm; exact absurd hm (Nat.not_lt_zero _)
    | succ nn ih =>
      intro t9 q0 hm
      refine mv_iload_n (pc := 2) B d_Book_thing_2 rfl 0 rfl ?_
      refine mv_aload_n (pc := 3) B d_Book_thing_3 rfl 1 rfl ?_
      refine mv_getI (pc := 4) (ci := 12) (C := R_Book) (T := F_Book) (N := 65) B 17 rfl rfl (by decide) i_Book (B.2.2.2.1 _ k_1860) rfl d_Book_thing_4 ?_
      refine mv_icmp_ge (pc := 7) (tgt := 39) B d_Book_thing_7 rfl (fun h7 => ?_) (fun h7 => ?_)
      · skip
        refine mv_iconst (pc := 39) (v := -1) B d_Book_thing_39 (by decide) ?_
        exact mv_iret (pc := 40) B hr rfl d_Book_thing_40 (Nat.le_refl _) (Nat.le_refl _) ⟨_, rfl, rfl, Or.inl rfl⟩
      · skip
        rw [Int32.le_iff_toInt_le] at h7
        have qt := hT.2.2 t9.toNatClampNeg (by have := i32_cl q0; omega)
        have w2 : (t9 + 1).toInt = t9.toInt + 1 := i32_inc (by omega)
        refine mv_aload_n (pc := 10) B d_Book_thing_10 rfl 1 rfl ?_
        refine mv_aload_n (pc := 11) B d_Book_thing_11 rfl 1 rfl ?_
        refine mv_getR (pc := 12) (ci := 12) (C := R_Book) (T := F_Book) (N := 65) B 10 rfl rfl (by decide) i_Book (B.2.2.2.1 _ k_1853) rfl (hR.1 _ 10 _ rfl) d_Book_thing_12 ?_
        refine mv_iload_n (pc := 15) B d_Book_thing_15 rfl 0 rfl ?_
        refine mv_iald (pc := 16) B rfl (i32_in q0 (show t9.toInt < 4100 by omega)) d_Book_thing_16 ?_
        refine mv_aload_n (pc := 17) B d_Book_thing_17 rfl 1 rfl ?_
        refine mv_getR (pc := 18) (ci := 12) (C := R_Book) (T := F_Book) (N := 65) B 11 rfl rfl (by decide) i_Book (B.2.2.2.1 _ k_1854) rfl (hR.1 _ 11 _ rfl) d_Book_thing_18 ?_
        refine mv_iload_n (pc := 21) B d_Book_thing_21 rfl 0 rfl ?_
        refine mv_iald (pc := 22) B rfl (i32_in q0 (show t9.toInt < 4100 by omega)) d_Book_thing_22 ?_
        refine mv_iload_n (pc := 23) B d_Book_thing_23 rfl 2 rfl ?_
        refine mv_iload_n (pc := 24) B d_Book_thing_24 rfl 3 rfl ?_
        refine mv_callVi (pc := 25) (n := 4) (ci := 12) (C := R_Book) B (mK_ok sk sv) hNs rfl rfl (c_Book_same_x l hi _ _ _ _ _ len hR hl qt h1) rfl (ma_goodc kc_Book_same) (B.2.2.2.1 _ k_2216) (B.2.2.2.1 _ k_2218) (B.2.2.2.1 _ ks_98) (B.2.2.2.1 _ k_13) ⟨by decide +kernel, by decide +kernel, by decide +kernel⟩ rfl d_Book_thing_25 rfl (Nat.le_of_ble_eq_true rfl) ⟨by decide, by decide⟩ ⟨by decide, by decide⟩ ⟨by decide, by decide⟩ (mv_noH hno _) (fun v25 σ25 h25 => ?_)
        have e25 := h25.symm
        subst e25
        refine mv_if_eq (pc := 28) (tgt := 33) B d_Book_thing_28 rfl (fun h28 => ?_) (fun h28 => ?_)
        · skip
          refine mv_iinc (pc := 33) (j := 0) (v := 1) B d_Book_thing_33 rfl (by decide) (by decide) rfl ?_
          refine mv_goto (pc := 36) (tgt := 2) B d_Book_thing_36 rfl ?_
          refine mv_lpick [0, 1, 2, 3] rfl ?_
          exact ih _ (by omega) (by omega)
        · skip
          refine mv_iload_n (pc := 31) B d_Book_thing_31 rfl 0 rfl ?_
          exact mv_iret (pc := 32) B hr rfl d_Book_thing_32 (Nat.le_refl _) (Nat.le_refl _) ⟨_, rfl, rfl, Or.inr ⟨q0, by omega⟩⟩
  refine mv_iconst (pc := 0) (v := 0) B d_Book_thing_0 (by decide) ?_
  refine mv_istore_n (pc := 1) B d_Book_thing_1 rfl (by decide) rfl ?_
  refine mv_lpick [0, 1, 2, 3] rfl ?_
  exact lp _ _ (by decide) (Nat.lt_succ_self _)
set_option maxHeartbeats 4000000 in
set_option maxRecDepth 100000 in
theorem c_Book_thing_y (l : Launch) {dA : FieldType → ClassId} {D : va_G} {al : Nat → Nat} {ext : mv_Sh} {sk sv : Nat → Nat} (hi : mv_inj (mg dA D al ext)) (σ : mv_H) (a9 b9 : Int32) (len : Nat) (hR : Br 108 (mv_r σ)) (hl : len ≤ 10240) (hT : NT 108 len σ) (h1 : Sp len a9 b9) : mv_C l y_Book_thing (Cond.code y_Book_thing b_Book_thing 4 (Option.some Jvm.ClassFile.FieldType.int) :: ma) ({ frames := 1, cells := 0, slots := 0, locals := 25 }) (mg dA D al ext) (mK sk sv) [.ref (al 108), .int a9, .int b9] σ (mv_Ri (fun v σ1 => σ1 = σ ∧ (v = -1 ∨ (0 ≤ v.toInt ∧ v.toInt < (mv_i σ 108 17).toInt)))) := by
  refine mv_C.ofV (cc := b_Book_thing) (nL := 4) (ret := (Option.some Jvm.ClassFile.FieldType.int)) (by decide +kernel) rfl hi (Nat.le_of_ble_eq_true rfl) ?_
  intro p e s m below meth c B hNs hr hnm hno
  have hT1 := hT.1
  have hT2 := hT.2.1
  have lp : ∀ (nn : Nat) (t9 : Int32) (q0 : 0 ≤ t9.toInt), (20000 - t9.toInt).toNat < nn → mv_V p l e ({ frames := 1, cells := 0, slots := 0, locals := 25 }) s m ([.ref (al 108), .int a9, .int b9] : List Value).toArray below meth c (mg dA D al ext) 4 0 0 (mv_Q (mg dA D al ext) below s 0 0 (mv_Ri (fun v σ1 => σ1 = σ ∧ (v = -1 ∨ (0 ≤ v.toInt ∧ v.toInt < (mv_i σ 108 17).toInt))))) σ 2 [(3, .int t9), (0, .ref (al 108)), (1, .int a9), (2, .int b9)] [] := by
    intro nn
    induction nn with
    | zero => intro t9 q0 hm; exact absurd hm (Nat.not_lt_zero _)
    | succ nn ih =>
      intro t9 q0 hm
      refine mv_iload_n (pc := 2) B d_Book_thing_2 rfl 0 rfl ?_
      refine mv_aload_n (pc := 3) B d_Book_thing_3 rfl 1 rfl ?_
      refine mv_getI (pc := 4) (ci := 12) (C := R_Book) (T := F_Book) (N := 65) B 17 rfl rfl (by decide) i_Book (B.2.2.2.1 _ k_1860) rfl d_Book_thing_4 ?_
      refine mv_icmp_ge (pc := 7) (tgt := 39) B d_Book_thing_7 rfl (fun h7 => ?_) (fun h7 => ?_)
      · skip
        refine mv_iconst (pc := 39) (v := -1) B d_Book_thing_39 (by decide) ?_
        exact mv_iret (pc := 40) B hr rfl d_Book_thing_40 (Nat.le_refl _) (Nat.le_refl _) ⟨_, rfl, rfl, Or.inl rfl⟩
      · skip
        rw [Int32.le_iff_toInt_le] at h7
        have qt := hT.2.2 t9.toNatClampNeg (by have := i32_cl q0; omega)
        have w2 : (t9 + 1).toInt = t9.toInt + 1 := i32_inc (by omega)
        refine mv_aload_n (pc := 10) B d_Book_thing_10 rfl 1 rfl ?_
        refine mv_aload_n (pc := 11) B d_Book_thing_11 rfl 1 rfl ?_
        refine mv_getR (pc := 12) (ci := 12) (C := R_Book) (T := F_Book) (N := 65) B 10 rfl rfl (by decide) i_Book (B.2.2.2.1 _ k_1853) rfl (hR.1 _ 10 _ rfl) d_Book_thing_12 ?_
        refine mv_iload_n (pc := 15) B d_Book_thing_15 rfl 0 rfl ?_
        refine mv_iald (pc := 16) B rfl (i32_in q0 (show t9.toInt < 4100 by omega)) d_Book_thing_16 ?_
        refine mv_aload_n (pc := 17) B d_Book_thing_17 rfl 1 rfl ?_
        refine mv_getR (pc := 18) (ci := 12) (C := R_Book) (T := F_Book) (N := 65) B 11 rfl rfl (by decide) i_Book (B.2.2.2.1 _ k_1854) rfl (hR.1 _ 11 _ rfl) d_Book_thing_18 ?_
        refine mv_iload_n (pc := 21) B d_Book_thing_21 rfl 0 rfl ?_
        refine mv_iald (pc := 22) B rfl (i32_in q0 (show t9.toInt < 4100 by omega)) d_Book_thing_22 ?_
        refine mv_iload_n (pc := 23) B d_Book_thing_23 rfl 2 rfl ?_
        refine mv_iload_n (pc := 24) B d_Book_thing_24 rfl 3 rfl ?_
        refine mv_callVi (pc := 25) (n := 4) (ci := 12) (C := R_Book) B (mK_ok sk sv) hNs rfl rfl (c_Book_same_y l hi _ _ _ _ _ len hR hl qt h1) rfl (ma_goodc kc_Book_same) (B.2.2.2.1 _ k_2216) (B.2.2.2.1 _ k_2218) (B.2.2.2.1 _ ks_98) (B.2.2.2.1 _ k_13) ⟨by decide +kernel, by decide +kernel, by decide +kernel⟩ rfl d_Book_thing_25 rfl (Nat.le_of_ble_eq_true rfl) ⟨by decide, by decide⟩ ⟨by decide, by decide⟩ ⟨by decide, by decide⟩ (mv_noH hno _) (fun v25 σ25 h25 => ?_)
        have e25 := h25.symm
        subst e25
        refine mv_if_eq (pc := 28) (tgt := 33) B d_Book_thing_28 rfl (fun h28 => ?_) (fun h28 => ?_)
        · skip
          refine mv_iinc (pc := 33) (j := 0) (v := 1) B d_Book_thing_33 rfl (by decide) (by decide) rfl ?_
          refine mv_goto (pc := 36) (tgt := 2) B d_Book_thing_36 rfl ?_
          refine mv_lpick [0, 1, 2, 3] rfl ?_
          exact ih _ (by omega) (by omega)
        · skip
          refine mv_iload_n (pc := 31) B d_Book_thing_31 rfl 0 rfl ?_
          exact mv_iret (pc := 32) B hr rfl d_Book_thing_32 (Nat.le_refl _) (Nat.le_refl _) ⟨_, rfl, rfl, Or.inr ⟨q0, by omega⟩⟩
  refine mv_iconst (pc := 0) (v := 0) B d_Book_thing_0 (by decide) ?_
  refine mv_istore_n (pc := 1) B d_Book_thing_1 rfl (by decide) rfl ?_
  refine mv_lpick [0, 1, 2, 3] rfl ?_
  exact lp _ _ (by decide) (Nat.lt_succ_self _)
def y_Book_let : MethodName := ⟨"MachineLoomModel$Book", "let", "(II)I"⟩
abbrev b_Book_let : ByteArray := prog_15_method_24_code
theorem kc_Book_let : Cond.code y_Book_let b_Book_let 4 (Option.some Jvm.ClassFile.FieldType.int) ∈ ma := ma_of (tb_10 _ (List.mem_of_getElem? (i := 148) rfl)) rfl
theorem k_1881 : (Jvm.Cond.fieldLink "MachineLoomModel$Book" (244 : Nat) "MachineLoomModel$Book" "lets" "I") ∈ ma := ma_of (tb_8 _ (List.mem_of_getElem? (i := 201) rfl)) rfl
theorem k_1877 : (Jvm.Cond.fieldLink "MachineLoomModel$Book" (69 : Nat) "MachineLoomModel$Book" "letFrom" "[I") ∈ ma := ma_of (tb_8 _ (List.mem_of_getElem? (i := 197) rfl)) rfl
theorem k_1878 : (Jvm.Cond.fieldLink "MachineLoomModel$Book" (72 : Nat) "MachineLoomModel$Book" "letTo" "[I") ∈ ma := ma_of (tb_8 _ (List.mem_of_getElem? (i := 198) rfl)) rfl
theorem d_Book_let_0 : decode b_Book_let 0 = .ok (.iconst 0, 1) := by decide +kernel
theorem d_Book_let_1 : decode b_Book_let 1 = .ok (.istore_n 3, 1) := by decide +kernel
theorem d_Book_let_2 : decode b_Book_let 2 = .ok (.iload_n 3, 1) := by decide +kernel
theorem d_Book_let_3 : decode b_Book_let 3 = .ok (.aload_n 0, 1) := by decide +kernel
theorem d_Book_let_4 : decode b_Book_let 4 = .ok (.getfield 244, 3) := by decide +kernel
theorem d_Book_let_7 : decode b_Book_let 7 = .ok (.if_icmp .ge (32), 3) := by decide +kernel
theorem d_Book_let_10 : decode b_Book_let 10 = .ok (.aload_n 0, 1) := by decide +kernel
theorem d_Book_let_11 : decode b_Book_let 11 = .ok (.aload_n 0, 1) := by decide +kernel
theorem d_Book_let_12 : decode b_Book_let 12 = .ok (.getfield 69, 3) := by decide +kernel
theorem d_Book_let_15 : decode b_Book_let 15 = .ok (.iload_n 3, 1) := by decide +kernel
theorem d_Book_let_16 : decode b_Book_let 16 = .ok (.iaload, 1) := by decide +kernel
theorem d_Book_let_17 : decode b_Book_let 17 = .ok (.aload_n 0, 1) := by decide +kernel
theorem d_Book_let_18 : decode b_Book_let 18 = .ok (.getfield 72, 3) := by decide +kernel
theorem d_Book_let_21 : decode b_Book_let 21 = .ok (.iload_n 3, 1) := by decide +kernel
theorem d_Book_let_22 : decode b_Book_let 22 = .ok (.iaload, 1) := by decide +kernel
theorem d_Book_let_23 : decode b_Book_let 23 = .ok (.iload_n 1, 1) := by decide +kernel
theorem d_Book_let_24 : decode b_Book_let 24 = .ok (.iload_n 2, 1) := by decide +kernel
theorem d_Book_let_25 : decode b_Book_let 25 = .ok (.invokevirtual 234, 3) := by decide +kernel
theorem d_Book_let_28 : decode b_Book_let 28 = .ok (.ifCond .eq (5), 3) := by decide +kernel
theorem d_Book_let_31 : decode b_Book_let 31 = .ok (.iload_n 3, 1) := by decide +kernel
theorem d_Book_let_32 : decode b_Book_let 32 = .ok (.ireturn, 1) := by decide +kernel
theorem d_Book_let_33 : decode b_Book_let 33 = .ok (.iinc 3 (1), 3) := by decide +kernel
theorem d_Book_let_36 : decode b_Book_let 36 = .ok (.goto (-34), 3) := by decide +kernel
theorem d_Book_let_39 : decode b_Book_let 39 = .ok (.iconst (-1), 1) := by decide +kernel
theorem d_Book_let_40 : decode b_Book_let 40 = .ok (.ireturn, 1) := by decide +kernel
set_option maxHeartbeats 4000000 in
set_option maxRecDepth 100000 in
theorem c_Book_let_x (l : Launch) {dA : FieldType → ClassId} {D : va_G} {al : Nat → Nat} {ext : mv_Sh} {sk sv : Nat → Nat} (hi : mv_inj (mg dA D al ext)) (σ : mv_H) (a9 b9 : Int32) (len : Nat) (hR : Br 74 (mv_r σ)) (hl : len ≤ 10240) (hT : NL 74 len σ) (h1 : Sp len a9 b9) : mv_C l y_Book_let (Cond.code y_Book_let b_Book_let 4 (Option.some Jvm.ClassFile.FieldType.int) :: ma) ({ frames := 1, cells := 0, slots := 0, locals := 25 }) (mg dA D al ext) (mK sk sv) [.ref (al 74), .int a9, .int b9] σ (mv_Ri (fun v σ1 => σ1 = σ ∧ (v = -1 ∨ (0 ≤ v.toInt ∧ v.toInt < (mv_i σ 74 35).toInt)))) := by
  refine mv_C.ofV (cc := b_Book_let) (nL := 4) (ret := (Option.some Jvm.ClassFile.FieldType.int)) (by decide +kernel) rfl hi (Nat.le_of_ble_eq_true rfl) ?_
  intro p e s m below meth c B hNs hr hnm hno
  have hT1 := hT.1
  have hT2 := hT.2.1
  have lp : ∀ (nn : Nat) (t9 : Int32) (q0 : 0 ≤ t9.toInt), (20000 - t9.toInt).toNat < nn → mv_V p l e ({ frames := 1, cells := 0, slots := 0, locals := 25 }) s m ([.ref (al 74), .int a9, .int b9] : List Value).toArray below meth c (mg dA D al ext) 4 0 0 (mv_Q (mg dA D al ext) below s 0 0 (mv_Ri (fun v σ1 => σ1 = σ ∧ (v = -1 ∨ (0 ≤ v.toInt ∧ v.toInt < (mv_i σ 74 35).toInt))))) σ 2 [(3, .int t9), (0, .ref (al 74)), (1, .int a9), (2, .int b9)] [] := by
    intro nn
    induction nn with
    | zero => intro t9 q0 hm; exact absurd hm (Nat.not_lt_zero _)
    | succ nn ih =>
      intro t9 q0 hm
      refine mv_iload_n (pc := 2) B d_Book_let_2 rfl 0 rfl ?_
      refine mv_aload_n (pc := 3) B d_Book_let_3 rfl 1 rfl ?_
      refine mv_getI (pc := 4) (ci := 12) (C := R_Book) (T := F_Book) (N := 65) B 35 rfl rfl (by decide) i_Book (B.2.2.2.1 _ k_1881) rfl d_Book_let_4 ?_
      refine mv_icmp_ge (pc := 7) (tgt := 39) B d_Book_let_7 rfl (fun h7 => ?_) (fun h7 => ?_)
      · skip
        refine mv_iconst (pc := 39) (v := -1) B d_Book_let_39 (by decide) ?_
        exact mv_iret (pc := 40) B hr rfl d_Book_let_40 (Nat.le_refl _) (Nat.le_refl _) ⟨_, rfl, rfl, Or.inl rfl⟩
      · skip
        rw [Int32.le_iff_toInt_le] at h7
        have qt := hT.2.2 t9.toNatClampNeg (by have := i32_cl q0; omega)
        have w2 : (t9 + 1).toInt = t9.toInt + 1 := i32_inc (by omega)
        refine mv_aload_n (pc := 10) B d_Book_let_10 rfl 1 rfl ?_
        refine mv_aload_n (pc := 11) B d_Book_let_11 rfl 1 rfl ?_
        refine mv_getR (pc := 12) (ci := 12) (C := R_Book) (T := F_Book) (N := 65) B 31 rfl rfl (by decide) i_Book (B.2.2.2.1 _ k_1877) rfl (hR.1 _ 31 _ rfl) d_Book_let_12 ?_
        refine mv_iload_n (pc := 15) B d_Book_let_15 rfl 0 rfl ?_
        refine mv_iald (pc := 16) B rfl (i32_in q0 (show t9.toInt < 4100 by omega)) d_Book_let_16 ?_
        refine mv_aload_n (pc := 17) B d_Book_let_17 rfl 1 rfl ?_
        refine mv_getR (pc := 18) (ci := 12) (C := R_Book) (T := F_Book) (N := 65) B 32 rfl rfl (by decide) i_Book (B.2.2.2.1 _ k_1878) rfl (hR.1 _ 32 _ rfl) d_Book_let_18 ?_
        refine mv_iload_n (pc := 21) B d_Book_let_21 rfl 0 rfl ?_
        refine mv_iald (pc := 22) B rfl (i32_in q0 (show t9.toInt < 4100 by omega)) d_Book_let_22 ?_
        refine mv_iload_n (pc := 23) B d_Book_let_23 rfl 2 rfl ?_
        refine mv_iload_n (pc := 24) B d_Book_let_24 rfl 3 rfl ?_
        refine mv_callVi (pc := 25) (n := 4) (ci := 12) (C := R_Book) B (mK_ok sk sv) hNs rfl rfl (c_Book_same_x l hi _ _ _ _ _ len hR hl qt.1 h1) rfl (ma_goodc kc_Book_same) (B.2.2.2.1 _ k_2216) (B.2.2.2.1 _ k_2218) (B.2.2.2.1 _ ks_98) (B.2.2.2.1 _ k_13) ⟨by decide +kernel, by decide +kernel, by decide +kernel⟩ rfl d_Book_let_25 rfl (Nat.le_of_ble_eq_true rfl) ⟨by decide, by decide⟩ ⟨by decide, by decide⟩ ⟨by decide, by decide⟩ (mv_noH hno _) (fun v25 σ25 h25 => ?_)
        have e25 := h25.symm
        subst e25
        refine mv_if_eq (pc := 28) (tgt := 33) B d_Book_let_28 rfl (fun h28 => ?_) (fun h28 => ?_)
        · skip
          refine mv_iinc (pc := 33) (j := 0) (v := 1) B d_Book_let_33 rfl (by decide) (by decide) rfl ?_
          refine mv_goto (pc := 36) (tgt := 2) B d_Book_let_36 rfl ?_
          refine mv_lpick [0, 1, 2, 3] rfl ?_
          exact ih _ (by omega) (by omega)
        · skip
          refine mv_iload_n (pc := 31) B d_Book_let_31 rfl 0 rfl ?_
          exact mv_iret (pc := 32) B hr rfl d_Book_let_32 (Nat.le_refl _) (Nat.le_refl _) ⟨_, rfl, rfl, Or.inr ⟨q0, by omega⟩⟩
  refine mv_iconst (pc := 0) (v := 0) B d_Book_let_0 (by decide) ?_
  refine mv_istore_n (pc := 1) B d_Book_let_1 rfl (by decide) rfl ?_
  refine mv_lpick [0, 1, 2, 3] rfl ?_
  exact lp _ _ (by decide) (Nat.lt_succ_self _)
set_option maxHeartbeats 4000000 in
set_option maxRecDepth 100000 in
theorem c_Book_let_y (l : Launch) {dA : FieldType → ClassId} {D : va_G} {al : Nat → Nat} {ext : mv_Sh} {sk sv : Nat → Nat} (hi : mv_inj (mg dA D al ext)) (σ : mv_H) (a9 b9 : Int32) (len : Nat) (hR : Br 108 (mv_r σ)) (hl : len ≤ 10240) (hT : NL 108 len σ) (h1 : Sp len a9 b9) : mv_C l y_Book_let (Cond.code y_Book_let b_Book_let 4 (Option.some Jvm.ClassFile.FieldType.int) :: ma) ({ frames := 1, cells := 0, slots := 0, locals := 25 }) (mg dA D al ext) (mK sk sv) [.ref (al 108), .int a9, .int b9] σ (mv_Ri (fun v σ1 => σ1 = σ ∧ (v = -1 ∨ (0 ≤ v.toInt ∧ v.toInt < (mv_i σ 108 35).toInt)))) := by
  refine mv_C.ofV (cc := b_Book_let) (nL := 4) (ret := (Option.some Jvm.ClassFile.FieldType.int)) (by decide +kernel) rfl hi (Nat.le_of_ble_eq_true rfl) ?_
  intro p e s m below meth c B hNs hr hnm hno
  have hT1 := hT.1
  have hT2 := hT.2.1
  have lp : ∀ (nn : Nat) (t9 : Int32) (q0 : 0 ≤ t9.toInt), (20000 - t9.toInt).toNat < nn → mv_V p l e ({ frames := 1, cells := 0, slots := 0, locals := 25 }) s m ([.ref (al 108), .int a9, .int b9] : List Value).toArray below meth c (mg dA D al ext) 4 0 0 (mv_Q (mg dA D al ext) below s 0 0 (mv_Ri (fun v σ1 => σ1 = σ ∧ (v = -1 ∨ (0 ≤ v.toInt ∧ v.toInt < (mv_i σ 108 35).toInt))))) σ 2 [(3, .int t9), (0, .ref (al 108)), (1, .int a9), (2, .int b9)] [] := by
    intro nn
    induction nn with
    | zero => intro t9 q0 hm; exact absurd hm (Nat.not_lt_zero _)
    | succ nn ih =>
      intro t9 q0 hm
      refine mv_iload_n (pc := 2) B d_Book_let_2 rfl 0 rfl ?_
      refine mv_aload_n (pc := 3) B d_Book_let_3 rfl 1 rfl ?_
      refine mv_getI (pc := 4) (ci := 12) (C := R_Book) (T := F_Book) (N := 65) B 35 rfl rfl (by decide) i_Book (B.2.2.2.1 _ k_1881) rfl d_Book_let_4 ?_
      refine mv_icmp_ge (pc := 7) (tgt := 39) B d_Book_let_7 rfl (fun h7 => ?_) (fun h7 => ?_)
      · skip
        refine mv_iconst (pc := 39) (v := -1) B d_Book_let_39 (by decide) ?_
        exact mv_iret (pc := 40) B hr rfl d_Book_let_40 (Nat.le_refl _) (Nat.le_refl _) ⟨_, rfl, rfl, Or.inl rfl⟩
      · skip
        rw [Int32.le_iff_toInt_le] at h7
        have qt := hT.2.2 t9.toNatClampNeg (by have := i32_cl q0; omega)
        have w2 : (t9 + 1).toInt = t9.toInt + 1 := i32_inc (by omega)
        refine mv_aload_n (pc := 10) B d_Book_let_10 rfl 1 rfl ?_
        refine mv_aload_n (pc := 11) B d_Book_let_11 rfl 1 rfl ?_
        refine mv_getR (pc := 12) (ci := 12) (C := R_Book) (T := F_Book) (N := 65) B 31 rfl rfl (by decide) i_Book (B.2.2.2.1 _ k_1877) rfl (hR.1 _ 31 _ rfl) d_Book_let_12 ?_
        refine mv_iload_n (pc := 15) B d_Book_let_15 rfl 0 rfl ?_
        refine mv_iald (pc := 16) B rfl (i32_in q0 (show t9.toInt < 4100 by omega)) d_Book_let_16 ?_
        refine mv_aload_n (pc := 17) B d_Book_let_17 rfl 1 rfl ?_
        refine mv_getR (pc := 18) (ci := 12) (C := R_Book) (T := F_Book) (N := 65) B 32 rfl rfl (by decide) i_Book (B.2.2.2.1 _ k_1878) rfl (hR.1 _ 32 _ rfl) d_Book_let_18 ?_
        refine mv_iload_n (pc := 21) B d_Book_let_21 rfl 0 rfl ?_
        refine mv_iald (pc := 22) B rfl (i32_in q0 (show t9.toInt < 4100 by omega)) d_Book_let_22 ?_
        refine mv_iload_n (pc := 23) B d_Book_let_23 rfl 2 rfl ?_
        refine mv_iload_n (pc := 24) B d_Book_let_24 rfl 3 rfl ?_
        refine mv_callVi (pc := 25) (n := 4) (ci := 12) (C := R_Book) B (mK_ok sk sv) hNs rfl rfl (c_Book_same_y l hi _ _ _ _ _ len hR hl qt.1 h1) rfl (ma_goodc kc_Book_same) (B.2.2.2.1 _ k_2216) (B.2.2.2.1 _ k_2218) (B.2.2.2.1 _ ks_98) (B.2.2.2.1 _ k_13) ⟨by decide +kernel, by decide +kernel, by decide +kernel⟩ rfl d_Book_let_25 rfl (Nat.le_of_ble_eq_true rfl) ⟨by decide, by decide⟩ ⟨by decide, by decide⟩ ⟨by decide, by decide⟩ (mv_noH hno _) (fun v25 σ25 h25 => ?_)
        have e25 := h25.symm
        subst e25
        refine mv_if_eq (pc := 28) (tgt := 33) B d_Book_let_28 rfl (fun h28 => ?_) (fun h28 => ?_)
        · skip
          refine mv_iinc (pc := 33) (j := 0) (v := 1) B d_Book_let_33 rfl (by decide) (by decide) rfl ?_
          refine mv_goto (pc := 36) (tgt := 2) B d_Book_let_36 rfl ?_
          refine mv_lpick [0, 1, 2, 3] rfl ?_
          exact ih _ (by omega) (by omega)
        · skip
          refine mv_iload_n (pc := 31) B d_Book_let_31 rfl 0 rfl ?_
          exact mv_iret (pc := 32) B hr rfl d_Book_let_32 (Nat.le_refl _) (Nat.le_refl _) ⟨_, rfl, rfl, Or.inr ⟨q0, by omega⟩⟩
  refine mv_iconst (pc := 0) (v := 0) B d_Book_let_0 (by decide) ?_
  refine mv_istore_n (pc := 1) B d_Book_let_1 rfl (by decide) rfl ?_
  refine mv_lpick [0, 1, 2, 3] rfl ?_
  exact lp _ _ (by decide) (Nat.lt_succ_self _)
def y_Book_letterBits : MethodName := ⟨"MachineLoomModel$Book", "letterBits", "(I)I"⟩
abbrev b_Book_letterBits : ByteArray := prog_15_method_23_code
theorem kc_Book_letterBits : Cond.code y_Book_letterBits b_Book_letterBits 4 (Option.some Jvm.ClassFile.FieldType.int) ∈ ma := ma_of (tb_10 _ (List.mem_of_getElem? (i := 156) rfl)) rfl
theorem k_1876 : (Jvm.Cond.fieldLink "MachineLoomModel$Book" (241 : Nat) "MachineLoomModel$Book" "codesEnd" "I") ∈ ma := ma_of (tb_8 _ (List.mem_of_getElem? (i := 196) rfl)) rfl
theorem k_1873 : (Jvm.Cond.fieldLink "MachineLoomModel$Book" (65 : Nat) "MachineLoomModel$Book" "codes" "[B") ∈ ma := ma_of (tb_8 _ (List.mem_of_getElem? (i := 193) rfl)) rfl
theorem k_1870 : (Jvm.Cond.fieldLink "MachineLoomModel$Book" (55 : Nat) "MachineLoomModel$Book" "codeAt" "[I") ∈ ma := ma_of (tb_8 _ (List.mem_of_getElem? (i := 190) rfl)) rfl
theorem k_1874 : (Jvm.Cond.fieldLink "MachineLoomModel$Book" (238 : Nat) "MachineLoomModel$Book" "ops" "I") ∈ ma := ma_of (tb_8 _ (List.mem_of_getElem? (i := 194) rfl)) rfl
theorem d_Book_letterBits_0 : decode b_Book_letterBits 0 = .ok (.iconst 0, 1) := by decide +kernel
theorem d_Book_letterBits_1 : decode b_Book_letterBits 1 = .ok (.istore_n 2, 1) := by decide +kernel
theorem d_Book_letterBits_2 : decode b_Book_letterBits 2 = .ok (.aload_n 0, 1) := by decide +kernel
theorem d_Book_letterBits_3 : decode b_Book_letterBits 3 = .ok (.getfield 55, 3) := by decide +kernel
theorem d_Book_letterBits_6 : decode b_Book_letterBits 6 = .ok (.aload_n 0, 1) := by decide +kernel
theorem d_Book_letterBits_7 : decode b_Book_letterBits 7 = .ok (.getfield 238, 3) := by decide +kernel
theorem d_Book_letterBits_10 : decode b_Book_letterBits 10 = .ok (.iaload, 1) := by decide +kernel
theorem d_Book_letterBits_11 : decode b_Book_letterBits 11 = .ok (.istore_n 3, 1) := by decide +kernel
theorem d_Book_letterBits_12 : decode b_Book_letterBits 12 = .ok (.iload_n 3, 1) := by decide +kernel
theorem d_Book_letterBits_13 : decode b_Book_letterBits 13 = .ok (.aload_n 0, 1) := by decide +kernel
theorem d_Book_letterBits_14 : decode b_Book_letterBits 14 = .ok (.getfield 241, 3) := by decide +kernel
theorem d_Book_letterBits_17 : decode b_Book_letterBits 17 = .ok (.if_icmp .ge (22), 3) := by decide +kernel
theorem d_Book_letterBits_20 : decode b_Book_letterBits 20 = .ok (.aload_n 0, 1) := by decide +kernel
theorem d_Book_letterBits_21 : decode b_Book_letterBits 21 = .ok (.getfield 65, 3) := by decide +kernel
theorem d_Book_letterBits_24 : decode b_Book_letterBits 24 = .ok (.iload_n 3, 1) := by decide +kernel
theorem d_Book_letterBits_25 : decode b_Book_letterBits 25 = .ok (.baload, 1) := by decide +kernel
theorem d_Book_letterBits_26 : decode b_Book_letterBits 26 = .ok (.iload_n 1, 1) := by decide +kernel
theorem d_Book_letterBits_27 : decode b_Book_letterBits 27 = .ok (.if_icmp .ne (6), 3) := by decide +kernel
theorem d_Book_letterBits_30 : decode b_Book_letterBits 30 = .ok (.iinc 2 (1), 3) := by decide +kernel
theorem d_Book_letterBits_33 : decode b_Book_letterBits 33 = .ok (.iinc 3 (1), 3) := by decide +kernel
theorem d_Book_letterBits_36 : decode b_Book_letterBits 36 = .ok (.goto (-24), 3) := by decide +kernel
theorem d_Book_letterBits_39 : decode b_Book_letterBits 39 = .ok (.iload_n 2, 1) := by decide +kernel
theorem d_Book_letterBits_40 : decode b_Book_letterBits 40 = .ok (.ireturn, 1) := by decide +kernel
set_option maxHeartbeats 4000000 in
set_option maxRecDepth 100000 in
theorem c_Book_letterBits_x (l : Launch) {dA : FieldType → ClassId} {D : va_G} {al : Nat → Nat} {ext : mv_Sh} {sk sv : Nat → Nat} (hi : mv_inj (mg dA D al ext)) (σ : mv_H) (c9 : Int32) (hR : Br 74 (mv_r σ)) (hC : NC 74 σ) : mv_C l y_Book_letterBits (Cond.code y_Book_letterBits b_Book_letterBits 4 (Option.some Jvm.ClassFile.FieldType.int) :: ma) ({ frames := 0, cells := 0, slots := 0, locals := 0 }) (mg dA D al ext) (mK sk sv) [.ref (al 74), .int c9] σ (mv_Ri (fun v σ1 => σ1 = σ)) := by
  refine mv_C.ofV (cc := b_Book_letterBits) (nL := 4) (ret := (Option.some Jvm.ClassFile.FieldType.int)) (by decide +kernel) rfl hi (Nat.le_of_ble_eq_true rfl) ?_
  intro p e s m below meth c B hNs hr hnm hno
  have hC2 := hC.2.1
  have hC4 := hC.2.2.2
  have lp : ∀ (nn : Nat) (i9 : Int32) (n9 : Int32) (q0 : 0 ≤ i9.toInt), (40000 - i9.toInt).toNat < nn → mv_V p l e ({ frames := 0, cells := 0, slots := 0, locals := 0 }) s m ([.ref (al 74), .int c9] : List Value).toArray below meth c (mg dA D al ext) 4 0 0 (mv_Q (mg dA D al ext) below s 0 0 (mv_Ri (fun v σ1 => σ1 = σ))) σ 12 [(3, .int i9), (2, .int n9), (0, .ref (al 74)), (1, .int c9)] [] := by
    intro nn
    induction nn with
    | zero => intro i9 n9 q0 hm; exact absurd hm (Nat.not_lt_zero _)
    | succ nn ih =>
      intro i9 n9 q0 hm
      refine mv_iload_n (pc := 12) B d_Book_letterBits_12 rfl 0 rfl ?_
      refine mv_aload_n (pc := 13) B d_Book_letterBits_13 rfl 2 rfl ?_
      refine mv_getI (pc := 14) (ci := 12) (C := R_Book) (T := F_Book) (N := 65) B 30 rfl rfl (by decide) i_Book (B.2.2.2.1 _ k_1876) rfl d_Book_letterBits_14 ?_
      refine mv_icmp_ge (pc := 17) (tgt := 39) B d_Book_letterBits_17 rfl (fun h17 => ?_) (fun h17 => ?_)
      · skip
        refine mv_iload_n (pc := 39) B d_Book_letterBits_39 rfl 1 rfl ?_
        exact mv_iret (pc := 40) B hr rfl d_Book_letterBits_40 (Nat.le_refl _) (Nat.le_refl _) ⟨_, rfl, rfl⟩
      · skip
        rw [Int32.le_iff_toInt_le] at h17
        have w2 : (i9 + 1).toInt = i9.toInt + 1 := i32_inc (by omega)
        refine mv_aload_n (pc := 20) B d_Book_letterBits_20 rfl 2 rfl ?_
        refine mv_getR (pc := 21) (ci := 12) (C := R_Book) (T := F_Book) (N := 65) B 28 rfl rfl (by decide) i_Book (B.2.2.2.1 _ k_1873) rfl (hR.1 _ 28 _ rfl) d_Book_letterBits_21 ?_
        refine mv_iload_n (pc := 24) B d_Book_letterBits_24 rfl 0 rfl ?_
        refine mv_bald (pc := 25) B rfl (i32_in q0 (show i9.toInt < 32768 by omega)) d_Book_letterBits_25 ?_
        refine mv_iload_n (pc := 26) B d_Book_letterBits_26 rfl 3 rfl ?_
        refine mv_icmp_ne (pc := 27) (tgt := 33) B d_Book_letterBits_27 rfl (fun h27 => ?_) (fun h27 => ?_)
        · skip
          refine mv_iinc (pc := 33) (j := 0) (v := 1) B d_Book_letterBits_33 rfl (by decide) (by decide) rfl ?_
          refine mv_goto (pc := 36) (tgt := 12) B d_Book_letterBits_36 rfl ?_
          refine mv_lpick [0, 1, 2, 3] rfl ?_
          exact ih _ _ (by omega) (by omega)
        · skip
          refine mv_iinc (pc := 30) (j := 1) (v := 1) B d_Book_letterBits_30 rfl (by decide) (by decide) rfl ?_
          refine mv_iinc (pc := 33) (j := 1) (v := 1) B d_Book_letterBits_33 rfl (by decide) (by decide) rfl ?_
          refine mv_goto (pc := 36) (tgt := 12) B d_Book_letterBits_36 rfl ?_
          refine mv_lpick [0, 1, 2, 3] rfl ?_
          exact ih _ _ (by omega) (by omega)
  refine mv_iconst (pc := 0) (v := 0) B d_Book_letterBits_0 (by decide) ?_
  refine mv_istore_n (pc := 1) B d_Book_letterBits_1 rfl (by decide) rfl ?_
  refine mv_aload_n (pc := 2) B d_Book_letterBits_2 rfl 1 rfl ?_
  refine mv_getR (pc := 3) (ci := 12) (C := R_Book) (T := F_Book) (N := 65) B 25 rfl rfl (by decide) i_Book (B.2.2.2.1 _ k_1870) rfl (hR.1 _ 25 _ rfl) d_Book_letterBits_3 ?_
  refine mv_aload_n (pc := 6) B d_Book_letterBits_6 rfl 1 rfl ?_
  refine mv_getI (pc := 7) (ci := 12) (C := R_Book) (T := F_Book) (N := 65) B 29 rfl rfl (by decide) i_Book (B.2.2.2.1 _ k_1874) rfl d_Book_letterBits_7 ?_
  refine mv_iald (pc := 10) B rfl (i32_in hC.1 (show (mv_i σ 74 29).toInt < 4100 by omega)) d_Book_letterBits_10 ?_
  refine mv_istore_n (pc := 11) B d_Book_letterBits_11 rfl (by decide) rfl ?_
  refine mv_lpick [0, 1, 2, 3] rfl ?_
  exact lp _ _ _ hC.2.2.1 (Nat.lt_succ_self _)
set_option maxHeartbeats 4000000 in
set_option maxRecDepth 100000 in
theorem c_Book_letterBits_y (l : Launch) {dA : FieldType → ClassId} {D : va_G} {al : Nat → Nat} {ext : mv_Sh} {sk sv : Nat → Nat} (hi : mv_inj (mg dA D al ext)) (σ : mv_H) (c9 : Int32) (hR : Br 108 (mv_r σ)) (hC : NC 108 σ) : mv_C l y_Book_letterBits (Cond.code y_Book_letterBits b_Book_letterBits 4 (Option.some Jvm.ClassFile.FieldType.int) :: ma) ({ frames := 0, cells := 0, slots := 0, locals := 0 }) (mg dA D al ext) (mK sk sv) [.ref (al 108), .int c9] σ (mv_Ri (fun v σ1 => σ1 = σ)) := by
  refine mv_C.ofV (cc := b_Book_letterBits) (nL := 4) (ret := (Option.some Jvm.ClassFile.FieldType.int)) (by decide +kernel) rfl hi (Nat.le_of_ble_eq_true rfl) ?_
  intro p e s m below meth c B hNs hr hnm hno
  have hC2 := hC.2.1
  have hC4 := hC.2.2.2
  have lp : ∀ (nn : Nat) (i9 : Int32) (n9 : Int32) (q0 : 0 ≤ i9.toInt), (40000 - i9.toInt).toNat < nn → mv_V p l e ({ frames := 0, cells := 0, slots := 0, locals := 0 }) s m ([.ref (al 108), .int c9] : List Value).toArray below meth c (mg dA D al ext) 4 0 0 (mv_Q (mg dA D al ext) below s 0 0 (mv_Ri (fun v σ1 => σ1 = σ))) σ 12 [(3, .int i9), (2, .int n9), (0, .ref (al 108)), (1, .int c9)] [] := by
    intro nn
    induction nn with
    | zero => intro i9 n9 q0 hm; exact absurd hm (Nat.not_lt_zero _)
    | succ nn ih =>
      intro i9 n9 q0 hm
      refine mv_iload_n (pc := 12) B d_Book_letterBits_12 rfl 0 rfl ?_
      refine mv_aload_n (pc := 13) B d_Book_letterBits_13 rfl 2 rfl ?_
      refine mv_getI (pc := 14) (ci := 12) (C := R_Book) (T := F_Book) (N := 65) B 30 rfl rfl (by decide) i_Book (B.2.2.2.1 _ k_1876) rfl d_Book_letterBits_14 ?_
      refine mv_icmp_ge (pc := 17) (tgt := 39) B d_Book_letterBits_17 rfl (fun h17 => ?_) (fun h17 => ?_)
      · skip
        refine mv_iload_n (pc := 39) B d_Book_letterBits_39 rfl 1 rfl ?_
        exact mv_iret (pc := 40) B hr rfl d_Book_letterBits_40 (Nat.le_refl _) (Nat.le_refl _) ⟨_, rfl, rfl⟩
      · skip
        rw [Int32.le_iff_toInt_le] at h17
        have w2 : (i9 + 1).toInt = i9.toInt + 1 := i32_inc (by omega)
        refine mv_aload_n (pc := 20) B d_Book_letterBits_20 rfl 2 rfl ?_
        refine mv_getR (pc := 21) (ci := 12) (C := R_Book) (T := F_Book) (N := 65) B 28 rfl rfl (by decide) i_Book (B.2.2.2.1 _ k_1873) rfl (hR.1 _ 28 _ rfl) d_Book_letterBits_21 ?_
        refine mv_iload_n (pc := 24) B d_Book_letterBits_24 rfl 0 rfl ?_
        refine mv_bald (pc := 25) B rfl (i32_in q0 (show i9.toInt < 32768 by omega)) d_Book_letterBits_25 ?_
        refine mv_iload_n (pc := 26) B d_Book_letterBits_26 rfl 3 rfl ?_
        refine mv_icmp_ne (pc := 27) (tgt := 33) B d_Book_letterBits_27 rfl (fun h27 => ?_) (fun h27 => ?_)
        · skip
          refine mv_iinc (pc := 33) (j := 0) (v := 1) B d_Book_letterBits_33 rfl (by decide) (by decide) rfl ?_
          refine mv_goto (pc := 36) (tgt := 12) B d_Book_letterBits_36 rfl ?_
          refine mv_lpick [0, 1, 2, 3] rfl ?_
          exact ih _ _ (by omega) (by omega)
        · skip
          refine mv_iinc (pc := 30) (j := 1) (v := 1) B d_Book_letterBits_30 rfl (by decide) (by decide) rfl ?_
          refine mv_iinc (pc := 33) (j := 1) (v := 1) B d_Book_letterBits_33 rfl (by decide) (by decide) rfl ?_
          refine mv_goto (pc := 36) (tgt := 12) B d_Book_letterBits_36 rfl ?_
          refine mv_lpick [0, 1, 2, 3] rfl ?_
          exact ih _ _ (by omega) (by omega)
  refine mv_iconst (pc := 0) (v := 0) B d_Book_letterBits_0 (by decide) ?_
  refine mv_istore_n (pc := 1) B d_Book_letterBits_1 rfl (by decide) rfl ?_
  refine mv_aload_n (pc := 2) B d_Book_letterBits_2 rfl 1 rfl ?_
  refine mv_getR (pc := 3) (ci := 12) (C := R_Book) (T := F_Book) (N := 65) B 25 rfl rfl (by decide) i_Book (B.2.2.2.1 _ k_1870) rfl (hR.1 _ 25 _ rfl) d_Book_letterBits_3 ?_
  refine mv_aload_n (pc := 6) B d_Book_letterBits_6 rfl 1 rfl ?_
  refine mv_getI (pc := 7) (ci := 12) (C := R_Book) (T := F_Book) (N := 65) B 29 rfl rfl (by decide) i_Book (B.2.2.2.1 _ k_1874) rfl d_Book_letterBits_7 ?_
  refine mv_iald (pc := 10) B rfl (i32_in hC.1 (show (mv_i σ 108 29).toInt < 4100 by omega)) d_Book_letterBits_10 ?_
  refine mv_istore_n (pc := 11) B d_Book_letterBits_11 rfl (by decide) rfl ?_
  refine mv_lpick [0, 1, 2, 3] rfl ?_
  exact lp _ _ _ hC.2.2.1 (Nat.lt_succ_self _)
def y_Book_isField : MethodName := ⟨"MachineLoomModel$Book", "isField", "(II)Z"⟩
abbrev b_Book_isField : ByteArray := prog_15_method_25_code
theorem kc_Book_isField : Cond.code y_Book_isField b_Book_isField 3 (Option.some Jvm.ClassFile.FieldType.boolean) ∈ ma := ma_of (tb_10 _ (List.mem_of_getElem? (i := 152) rfl)) rfl
theorem k_2313 : (Jvm.Cond.methodLink "MachineLoomModel$Book" (247 : Nat) ({ cls := "MachineLoomModel$Book", name := "letterBits", desc := "(I)I" } : Jvm.MethodName)) ∈ ma := ma_of (tb_10 _ (List.mem_of_getElem? (i := 153) rfl)) rfl
theorem k_2315 : (Jvm.Cond.instanceMethod ({ cls := "MachineLoomModel$Book", name := "letterBits", desc := "(I)I" } : Jvm.MethodName)) ∈ ma := ma_of (tb_10 _ (List.mem_of_getElem? (i := 155) rfl)) rfl
theorem ks_118 : Cond.selects "MachineLoomModel$Book" ⟨"MachineLoomModel$Book", "letterBits", "(I)I"⟩ ⟨"MachineLoomModel$Book", "letterBits", "(I)I"⟩ ∈ ma := ma_sel 118 rfl rfl
theorem d_Book_isField_0 : decode b_Book_isField 0 = .ok (.iload_n 2, 1) := by decide +kernel
theorem d_Book_isField_1 : decode b_Book_isField 1 = .ok (.iload_n 1, 1) := by decide +kernel
theorem d_Book_isField_2 : decode b_Book_isField 2 = .ok (.isub, 1) := by decide +kernel
theorem d_Book_isField_3 : decode b_Book_isField 3 = .ok (.iconst 1, 1) := by decide +kernel
theorem d_Book_isField_4 : decode b_Book_isField 4 = .ok (.if_icmp .ne (40), 3) := by decide +kernel
theorem d_Book_isField_7 : decode b_Book_isField 7 = .ok (.aload_n 0, 1) := by decide +kernel
theorem d_Book_isField_8 : decode b_Book_isField 8 = .ok (.iload_n 1, 1) := by decide +kernel
theorem d_Book_isField_9 : decode b_Book_isField 9 = .ok (.invokevirtual 145, 3) := by decide +kernel
theorem d_Book_isField_12 : decode b_Book_isField 12 = .ok (.invokestatic 165, 3) := by decide +kernel
theorem d_Book_isField_15 : decode b_Book_isField 15 = .ok (.ifCond .eq (29), 3) := by decide +kernel
theorem d_Book_isField_18 : decode b_Book_isField 18 = .ok (.aload_n 0, 1) := by decide +kernel
theorem d_Book_isField_19 : decode b_Book_isField 19 = .ok (.iload_n 1, 1) := by decide +kernel
theorem d_Book_isField_20 : decode b_Book_isField 20 = .ok (.invokevirtual 145, 3) := by decide +kernel
theorem d_Book_isField_23 : decode b_Book_isField 23 = .ok (.bipush 95, 2) := by decide +kernel
theorem d_Book_isField_25 : decode b_Book_isField 25 = .ok (.if_icmp .eq (19), 3) := by decide +kernel
theorem d_Book_isField_28 : decode b_Book_isField 28 = .ok (.aload_n 0, 1) := by decide +kernel
theorem d_Book_isField_29 : decode b_Book_isField 29 = .ok (.aload_n 0, 1) := by decide +kernel
theorem d_Book_isField_30 : decode b_Book_isField 30 = .ok (.iload_n 1, 1) := by decide +kernel
theorem d_Book_isField_31 : decode b_Book_isField 31 = .ok (.invokevirtual 145, 3) := by decide +kernel
theorem d_Book_isField_34 : decode b_Book_isField 34 = .ok (.invokevirtual 247, 3) := by decide +kernel
theorem d_Book_isField_37 : decode b_Book_isField 37 = .ok (.ifCond .le (7), 3) := by decide +kernel
theorem d_Book_isField_40 : decode b_Book_isField 40 = .ok (.iconst 1, 1) := by decide +kernel
theorem d_Book_isField_41 : decode b_Book_isField 41 = .ok (.goto (4), 3) := by decide +kernel
theorem d_Book_isField_44 : decode b_Book_isField 44 = .ok (.iconst 0, 1) := by decide +kernel
theorem d_Book_isField_45 : decode b_Book_isField 45 = .ok (.ireturn, 1) := by decide +kernel
set_option maxHeartbeats 4000000 in
set_option maxRecDepth 100000 in
theorem c_Book_isField_x (l : Launch) {dA : FieldType → ClassId} {D : va_G} {al : Nat → Nat} {ext : mv_Sh} {sk sv : Nat → Nat} (hi : mv_inj (mg dA D al ext)) (σ : mv_H) (a9 b9 : Int32) (len : Nat) (hR : Br 74 (mv_r σ)) (hz : (mv_i σ 74 2).toInt = len) (hl : len ≤ 10240) (hC : NC 74 σ) (h0 : 0 ≤ a9.toInt) : mv_C l y_Book_isField (Cond.code y_Book_isField b_Book_isField 3 (Option.some Jvm.ClassFile.FieldType.boolean) :: ma) ({ frames := 1, cells := 0, slots := 0, locals := 23 }) (mg dA D al ext) (mK sk sv) [.ref (al 74), .int a9, .int b9] σ (mv_Ri (fun v σ1 => σ1 = σ ∧ (v = 0 ∨ v = 1))) := by
  refine mv_C.ofV (cc := b_Book_isField) (nL := 3) (ret := (Option.some Jvm.ClassFile.FieldType.boolean)) (by decide +kernel) rfl hi (Nat.le_of_ble_eq_true rfl) ?_
  intro p e s m below meth c B hNs hr hnm hno
  refine mv_iload_n (pc := 0) B d_Book_isField_0 rfl 2 rfl ?_
  refine mv_iload_n (pc := 1) B d_Book_isField_1 rfl 1 rfl ?_
  refine mv_isub (pc := 2) B d_Book_isField_2 ?_
  refine mv_iconst (pc := 3) (v := 1) B d_Book_isField_3 (by decide) ?_
  refine mv_icmp_ne (pc := 4) (tgt := 44) B d_Book_isField_4 rfl (fun h4 => ?_) (fun h4 => ?_)
  · skip
    refine mv_iconst (pc := 44) (v := 0) B d_Book_isField_44 (by decide) ?_
    exact mv_iret (pc := 45) B hr rfl d_Book_isField_45 (Nat.le_refl _) (Nat.le_refl _) ⟨_, rfl, rfl, by first | exact Or.inl rfl | exact Or.inr rfl⟩
  · skip
    refine mv_aload_n (pc := 7) B d_Book_isField_7 rfl 0 rfl ?_
    refine mv_iload_n (pc := 8) B d_Book_isField_8 rfl 1 rfl ?_
    refine mv_callVi (pc := 9) (n := 1) (ci := 12) (C := R_Book) B (mK_ok sk sv) hNs rfl rfl (c_Book_look_x l hi _ _ len hR hz hl h0) rfl (ma_goodc kc_Book_look) (B.2.2.2.1 _ k_2122) (B.2.2.2.1 _ k_2124) (B.2.2.2.1 _ ks_82) (B.2.2.2.1 _ k_13) ⟨by decide +kernel, by decide +kernel, by decide +kernel⟩ rfl d_Book_isField_9 rfl (Nat.le_of_ble_eq_true rfl) ⟨by decide, by decide⟩ ⟨by decide, by decide⟩ ⟨by decide, by decide⟩ (mv_noH hno _) (fun v9 σ9 h9 => ?_)
    obtain ⟨e9, w9, z9⟩ := h9
    have e9 := e9.symm
    subst e9
    refine mv_callSi (pc := 12) (n := 1) B (mK_ok sk sv) hNs (c_Book_letter l hi _ _) rfl (ma_goodc kc_Book_letter) (B.2.2.2.1 _ k_2126) (B.2.2.2.1 _ k_2127) (B.2.2.2.1 _ k_13) ⟨by decide +kernel, by decide +kernel, by decide +kernel⟩ rfl d_Book_isField_12 rfl (Nat.le_of_ble_eq_true rfl) ⟨by decide, by decide⟩ ⟨by decide, by decide⟩ ⟨by decide, by decide⟩ (mv_noH hno _) (fun v12 σ12 h12 => ?_)
    obtain ⟨e12, w12, z12⟩ := h12
    have e12 := e12.symm
    subst e12
    refine mv_if_eq (pc := 15) (tgt := 44) B d_Book_isField_15 rfl (fun h15 => ?_) (fun h15 => ?_)
    · skip
      refine mv_iconst (pc := 44) (v := 0) B d_Book_isField_44 (by decide) ?_
      exact mv_iret (pc := 45) B hr rfl d_Book_isField_45 (Nat.le_refl _) (Nat.le_refl _) ⟨_, rfl, rfl, by first | exact Or.inl rfl | exact Or.inr rfl⟩
    · skip
      refine mv_aload_n (pc := 18) B d_Book_isField_18 rfl 0 rfl ?_
      refine mv_iload_n (pc := 19) B d_Book_isField_19 rfl 1 rfl ?_
      refine mv_callVi (pc := 20) (n := 1) (ci := 12) (C := R_Book) B (mK_ok sk sv) hNs rfl rfl (c_Book_look_x l hi _ _ len hR hz hl h0) rfl (ma_goodc kc_Book_look) (B.2.2.2.1 _ k_2122) (B.2.2.2.1 _ k_2124) (B.2.2.2.1 _ ks_82) (B.2.2.2.1 _ k_13) ⟨by decide +kernel, by decide +kernel, by decide +kernel⟩ rfl d_Book_isField_20 rfl (Nat.le_of_ble_eq_true rfl) ⟨by decide, by decide⟩ ⟨by decide, by decide⟩ ⟨by decide, by decide⟩ (mv_noH hno _) (fun v20 σ20 h20 => ?_)
      obtain ⟨e20, w20, z20⟩ := h20
      have e20 := e20.symm
      subst e20
      refine mv_bipush (pc := 23) (v := 95) B d_Book_isField_23 (by decide) ?_
      refine mv_icmp_eq (pc := 25) (tgt := 44) B d_Book_isField_25 rfl (fun h25 => ?_) (fun h25 => ?_)
      · skip
        refine mv_iconst (pc := 44) (v := 0) B d_Book_isField_44 (by decide) ?_
        exact mv_iret (pc := 45) B hr rfl d_Book_isField_45 (Nat.le_refl _) (Nat.le_refl _) ⟨_, rfl, rfl, by first | exact Or.inl rfl | exact Or.inr rfl⟩
      · skip
        refine mv_aload_n (pc := 28) B d_Book_isField_28 rfl 0 rfl ?_
        refine mv_aload_n (pc := 29) B d_Book_isField_29 rfl 0 rfl ?_
        refine mv_iload_n (pc := 30) B d_Book_isField_30 rfl 1 rfl ?_
        refine mv_callVi (pc := 31) (n := 1) (ci := 12) (C := R_Book) B (mK_ok sk sv) hNs rfl rfl (c_Book_look_x l hi _ _ len hR hz hl h0) rfl (ma_goodc kc_Book_look) (B.2.2.2.1 _ k_2122) (B.2.2.2.1 _ k_2124) (B.2.2.2.1 _ ks_82) (B.2.2.2.1 _ k_13) ⟨by decide +kernel, by decide +kernel, by decide +kernel⟩ rfl d_Book_isField_31 rfl (Nat.le_of_ble_eq_true rfl) ⟨by decide, by decide⟩ ⟨by decide, by decide⟩ ⟨by decide, by decide⟩ (mv_noH hno _) (fun v31 σ31 h31 => ?_)
        obtain ⟨e31, w31, z31⟩ := h31
        have e31 := e31.symm
        subst e31
        refine mv_callVi (pc := 34) (n := 1) (ci := 12) (C := R_Book) B (mK_ok sk sv) hNs rfl rfl (c_Book_letterBits_x l hi _ _ hR hC) rfl (ma_goodc kc_Book_letterBits) (B.2.2.2.1 _ k_2313) (B.2.2.2.1 _ k_2315) (B.2.2.2.1 _ ks_118) (B.2.2.2.1 _ k_13) ⟨by decide +kernel, by decide +kernel, by decide +kernel⟩ rfl d_Book_isField_34 rfl (Nat.le_of_ble_eq_true rfl) ⟨by decide, by decide⟩ ⟨by decide, by decide⟩ ⟨by decide, by decide⟩ (mv_noH hno _) (fun v34 σ34 h34 => ?_)
        have e34 := h34.symm
        subst e34
        refine mv_if_le (pc := 37) (tgt := 44) B d_Book_isField_37 rfl (fun h37 => ?_) (fun h37 => ?_)
        · skip
          refine mv_iconst (pc := 44) (v := 0) B d_Book_isField_44 (by decide) ?_
          exact mv_iret (pc := 45) B hr rfl d_Book_isField_45 (Nat.le_refl _) (Nat.le_refl _) ⟨_, rfl, rfl, by first | exact Or.inl rfl | exact Or.inr rfl⟩
        · skip
          refine mv_iconst (pc := 40) (v := 1) B d_Book_isField_40 (by decide) ?_
          refine mv_goto (pc := 41) (tgt := 45) B d_Book_isField_41 rfl ?_
          exact mv_iret (pc := 45) B hr rfl d_Book_isField_45 (Nat.le_refl _) (Nat.le_refl _) ⟨_, rfl, rfl, by first | exact Or.inl rfl | exact Or.inr rfl⟩
set_option maxHeartbeats 4000000 in
set_option maxRecDepth 100000 in
theorem c_Book_isField_y (l : Launch) {dA : FieldType → ClassId} {D : va_G} {al : Nat → Nat} {ext : mv_Sh} {sk sv : Nat → Nat} (hi : mv_inj (mg dA D al ext)) (σ : mv_H) (a9 b9 : Int32) (len : Nat) (hR : Br 108 (mv_r σ)) (hz : (mv_i σ 108 2).toInt = len) (hl : len ≤ 10240) (hC : NC 108 σ) (h0 : 0 ≤ a9.toInt) : mv_C l y_Book_isField (Cond.code y_Book_isField b_Book_isField 3 (Option.some Jvm.ClassFile.FieldType.boolean) :: ma) ({ frames := 1, cells := 0, slots := 0, locals := 23 }) (mg dA D al ext) (mK sk sv) [.ref (al 108), .int a9, .int b9] σ (mv_Ri (fun v σ1 => σ1 = σ ∧ (v = 0 ∨ v = 1))) := by
  refine mv_C.ofV (cc := b_Book_isField) (nL := 3) (ret := (Option.some Jvm.ClassFile.FieldType.boolean)) (by decide +kernel) rfl hi (Nat.le_of_ble_eq_true rfl) ?_
  intro p e s m below meth c B hNs hr hnm hno
  refine mv_iload_n (pc := 0) B d_Book_isField_0 rfl 2 rfl ?_
  refine mv_iload_n (pc := 1) B d_Book_isField_1 rfl 1 rfl ?_
  refine mv_isub (pc := 2) B d_Book_isField_2 ?_
  refine mv_iconst (pc := 3) (v := 1) B d_Book_isField_3 (by decide) ?_
  refine mv_icmp_ne (pc := 4) (tgt := 44) B d_Book_isField_4 rfl (fun h4 => ?_) (fun h4 => ?_)
  · skip
    refine mv_iconst (pc := 44) (v := 0) B d_Book_isField_44 (by decide) ?_
    exact mv_iret (pc := 45) B hr rfl d_Book_isField_45 (Nat.le_refl _) (Nat.le_refl _) ⟨_, rfl, rfl, by first | exact Or.inl rfl | exact Or.inr rfl⟩
  · skip
    refine mv_aload_n (pc := 7) B d_Book_isField_7 rfl 0 rfl ?_
    refine mv_iload_n (pc := 8) B d_Book_isField_8 rfl 1 rfl ?_
    refine mv_callVi (pc := 9) (n := 1) (ci := 12) (C := R_Book) B (mK_ok sk sv) hNs rfl rfl (c_Book_look_y l hi _ _ len hR hz hl h0) rfl (ma_goodc kc_Book_look) (B.2.2.2.1 _ k_2122) (B.2.2.2.1 _ k_2124) (B.2.2.2.1 _ ks_82) (B.2.2.2.1 _ k_13) ⟨by decide +kernel, by decide +kernel, by decide +kernel⟩ rfl d_Book_isField_9 rfl (Nat.le_of_ble_eq_true rfl) ⟨by decide, by decide⟩ ⟨by decide, by decide⟩ ⟨by decide, by decide⟩ (mv_noH hno _) (fun v9 σ9 h9 => ?_)
    obtain ⟨e9, w9, z9⟩ := h9
    have e9 := e9.symm
    subst e9
    refine mv_callSi (pc := 12) (n := 1) B (mK_ok sk sv) hNs (c_Book_letter l hi _ _) rfl (ma_goodc kc_Book_letter) (B.2.2.2.1 _ k_2126) (B.2.2.2.1 _ k_2127) (B.2.2.2.1 _ k_13) ⟨by decide +kernel, by decide +kernel, by decide +kernel⟩ rfl d_Book_isField_12 rfl (Nat.le_of_ble_eq_true rfl) ⟨by decide, by decide⟩ ⟨by decide, by decide⟩ ⟨by decide, by decide⟩ (mv_noH hno _) (fun v12 σ12 h12 => ?_)
    obtain ⟨e12, w12, z12⟩ := h12
    have e12 := e12.symm
    subst e12
    refine mv_if_eq (pc := 15) (tgt := 44) B d_Book_isField_15 rfl (fun h15 => ?_) (fun h15 => ?_)
    · skip
      refine mv_iconst (pc := 44) (v := 0) B d_Book_isField_44 (by decide) ?_
      exact mv_iret (pc := 45) B hr rfl d_Book_isField_45 (Nat.le_refl _) (Nat.le_refl _) ⟨_, rfl, rfl, by first | exact Or.inl rfl | exact Or.inr rfl⟩
    · skip
      refine mv_aload_n (pc := 18) B d_Book_isField_18 rfl 0 rfl ?_
      refine mv_iload_n (pc := 19) B d_Book_isField_19 rfl 1 rfl ?_
      refine mv_callVi (pc := 20) (n := 1) (ci := 12) (C := R_Book) B (mK_ok sk sv) hNs rfl rfl (c_Book_look_y l hi _ _ len hR hz hl h0) rfl (ma_goodc kc_Book_look) (B.2.2.2.1 _ k_2122) (B.2.2.2.1 _ k_2124) (B.2.2.2.1 _ ks_82) (B.2.2.2.1 _ k_13) ⟨by decide +kernel, by decide +kernel, by decide +kernel⟩ rfl d_Book_isField_20 rfl (Nat.le_of_ble_eq_true rfl) ⟨by decide, by decide⟩ ⟨by decide, by decide⟩ ⟨by decide, by decide⟩ (mv_noH hno _) (fun v20 σ20 h20 => ?_)
      obtain ⟨e20, w20, z20⟩ := h20
      have e20 := e20.symm
      subst e20
      refine mv_bipush (pc := 23) (v := 95) B d_Book_isField_23 (by decide) ?_
      refine mv_icmp_eq (pc := 25) (tgt := 44) B d_Book_isField_25 rfl (fun h25 => ?_) (fun h25 => ?_)
      · skip
        refine mv_iconst (pc := 44) (v := 0) B d_Book_isField_44 (by decide) ?_
        exact mv_iret (pc := 45) B hr rfl d_Book_isField_45 (Nat.le_refl _) (Nat.le_refl _) ⟨_, rfl, rfl, by first | exact Or.inl rfl | exact Or.inr rfl⟩
      · skip
        refine mv_aload_n (pc := 28) B d_Book_isField_28 rfl 0 rfl ?_
        refine mv_aload_n (pc := 29) B d_Book_isField_29 rfl 0 rfl ?_
        refine mv_iload_n (pc := 30) B d_Book_isField_30 rfl 1 rfl ?_
        refine mv_callVi (pc := 31) (n := 1) (ci := 12) (C := R_Book) B (mK_ok sk sv) hNs rfl rfl (c_Book_look_y l hi _ _ len hR hz hl h0) rfl (ma_goodc kc_Book_look) (B.2.2.2.1 _ k_2122) (B.2.2.2.1 _ k_2124) (B.2.2.2.1 _ ks_82) (B.2.2.2.1 _ k_13) ⟨by decide +kernel, by decide +kernel, by decide +kernel⟩ rfl d_Book_isField_31 rfl (Nat.le_of_ble_eq_true rfl) ⟨by decide, by decide⟩ ⟨by decide, by decide⟩ ⟨by decide, by decide⟩ (mv_noH hno _) (fun v31 σ31 h31 => ?_)
        obtain ⟨e31, w31, z31⟩ := h31
        have e31 := e31.symm
        subst e31
        refine mv_callVi (pc := 34) (n := 1) (ci := 12) (C := R_Book) B (mK_ok sk sv) hNs rfl rfl (c_Book_letterBits_y l hi _ _ hR hC) rfl (ma_goodc kc_Book_letterBits) (B.2.2.2.1 _ k_2313) (B.2.2.2.1 _ k_2315) (B.2.2.2.1 _ ks_118) (B.2.2.2.1 _ k_13) ⟨by decide +kernel, by decide +kernel, by decide +kernel⟩ rfl d_Book_isField_34 rfl (Nat.le_of_ble_eq_true rfl) ⟨by decide, by decide⟩ ⟨by decide, by decide⟩ ⟨by decide, by decide⟩ (mv_noH hno _) (fun v34 σ34 h34 => ?_)
        have e34 := h34.symm
        subst e34
        refine mv_if_le (pc := 37) (tgt := 44) B d_Book_isField_37 rfl (fun h37 => ?_) (fun h37 => ?_)
        · skip
          refine mv_iconst (pc := 44) (v := 0) B d_Book_isField_44 (by decide) ?_
          exact mv_iret (pc := 45) B hr rfl d_Book_isField_45 (Nat.le_refl _) (Nat.le_refl _) ⟨_, rfl, rfl, by first | exact Or.inl rfl | exact Or.inr rfl⟩
        · skip
          refine mv_iconst (pc := 40) (v := 1) B d_Book_isField_40 (by decide) ?_
          refine mv_goto (pc := 41) (tgt := 45) B d_Book_isField_41 rfl ?_
          exact mv_iret (pc := 45) B hr rfl d_Book_isField_45 (Nat.le_refl _) (Nat.le_refl _) ⟨_, rfl, rfl, by first | exact Or.inl rfl | exact Or.inr rfl⟩
def y_Book_node : MethodName := ⟨"MachineLoomModel$Book", "node", "(IIIII)I"⟩
abbrev b_Book_node : ByteArray := prog_15_method_26_code
theorem kc_Book_node : Cond.code y_Book_node b_Book_node 7 (Option.some Jvm.ClassFile.FieldType.int) ∈ ma := ma_of (tb_10 _ (List.mem_of_getElem? (i := 112) rfl)) rfl
theorem k_1897 : (Jvm.Cond.fieldLink "MachineLoomModel$Book" (250 : Nat) "MachineLoomModel$Book" "nodes" "I") ∈ ma := ma_of (tb_8 _ (List.mem_of_getElem? (i := 217) rfl)) rfl
theorem k_1889 : (Jvm.Cond.fieldLink "MachineLoomModel$Book" (82 : Nat) "MachineLoomModel$Book" "sort" "[I") ∈ ma := ma_of (tb_8 _ (List.mem_of_getElem? (i := 209) rfl)) rfl
theorem k_1890 : (Jvm.Cond.fieldLink "MachineLoomModel$Book" (85 : Nat) "MachineLoomModel$Book" "a" "[I") ∈ ma := ma_of (tb_8 _ (List.mem_of_getElem? (i := 210) rfl)) rfl
theorem k_1891 : (Jvm.Cond.fieldLink "MachineLoomModel$Book" (88 : Nat) "MachineLoomModel$Book" "b" "[I") ∈ ma := ma_of (tb_8 _ (List.mem_of_getElem? (i := 211) rfl)) rfl
theorem k_1892 : (Jvm.Cond.fieldLink "MachineLoomModel$Book" (91 : Nat) "MachineLoomModel$Book" "c" "[I") ∈ ma := ma_of (tb_8 _ (List.mem_of_getElem? (i := 212) rfl)) rfl
theorem k_1894 : (Jvm.Cond.fieldLink "MachineLoomModel$Book" (97 : Nat) "MachineLoomModel$Book" "width" "[I") ∈ ma := ma_of (tb_8 _ (List.mem_of_getElem? (i := 214) rfl)) rfl
theorem k_1893 : (Jvm.Cond.fieldLink "MachineLoomModel$Book" (94 : Nat) "MachineLoomModel$Book" "follow" "[I") ∈ ma := ma_of (tb_8 _ (List.mem_of_getElem? (i := 213) rfl)) rfl
theorem k_1896 : (Jvm.Cond.fieldLink "MachineLoomModel$Book" (104 : Nat) "MachineLoomModel$Book" "chained" "[Z") ∈ ma := ma_of (tb_8 _ (List.mem_of_getElem? (i := 216) rfl)) rfl
theorem d_Book_node_0 : decode b_Book_node 0 = .ok (.aload_n 0, 1) := by decide +kernel
theorem d_Book_node_1 : decode b_Book_node 1 = .ok (.getfield 250, 3) := by decide +kernel
theorem d_Book_node_4 : decode b_Book_node 4 = .ok (.istore 6, 2) := by decide +kernel
theorem d_Book_node_6 : decode b_Book_node 6 = .ok (.aload_n 0, 1) := by decide +kernel
theorem d_Book_node_7 : decode b_Book_node 7 = .ok (.dup, 1) := by decide +kernel
theorem d_Book_node_8 : decode b_Book_node 8 = .ok (.getfield 250, 3) := by decide +kernel
theorem d_Book_node_11 : decode b_Book_node 11 = .ok (.iconst 1, 1) := by decide +kernel
theorem d_Book_node_12 : decode b_Book_node 12 = .ok (.iadd, 1) := by decide +kernel
theorem d_Book_node_13 : decode b_Book_node 13 = .ok (.putfield 250, 3) := by decide +kernel
theorem d_Book_node_16 : decode b_Book_node 16 = .ok (.aload_n 0, 1) := by decide +kernel
theorem d_Book_node_17 : decode b_Book_node 17 = .ok (.getfield 82, 3) := by decide +kernel
theorem d_Book_node_20 : decode b_Book_node 20 = .ok (.iload 6, 2) := by decide +kernel
theorem d_Book_node_22 : decode b_Book_node 22 = .ok (.iload_n 1, 1) := by decide +kernel
theorem d_Book_node_23 : decode b_Book_node 23 = .ok (.iastore, 1) := by decide +kernel
theorem d_Book_node_24 : decode b_Book_node 24 = .ok (.aload_n 0, 1) := by decide +kernel
theorem d_Book_node_25 : decode b_Book_node 25 = .ok (.getfield 85, 3) := by decide +kernel
theorem d_Book_node_28 : decode b_Book_node 28 = .ok (.iload 6, 2) := by decide +kernel
theorem d_Book_node_30 : decode b_Book_node 30 = .ok (.iload_n 2, 1) := by decide +kernel
theorem d_Book_node_31 : decode b_Book_node 31 = .ok (.iastore, 1) := by decide +kernel
theorem d_Book_node_32 : decode b_Book_node 32 = .ok (.aload_n 0, 1) := by decide +kernel
theorem d_Book_node_33 : decode b_Book_node 33 = .ok (.getfield 88, 3) := by decide +kernel
theorem d_Book_node_36 : decode b_Book_node 36 = .ok (.iload 6, 2) := by decide +kernel
theorem d_Book_node_38 : decode b_Book_node 38 = .ok (.iload_n 3, 1) := by decide +kernel
theorem d_Book_node_39 : decode b_Book_node 39 = .ok (.iastore, 1) := by decide +kernel
theorem d_Book_node_40 : decode b_Book_node 40 = .ok (.aload_n 0, 1) := by decide +kernel
theorem d_Book_node_41 : decode b_Book_node 41 = .ok (.getfield 91, 3) := by decide +kernel
theorem d_Book_node_44 : decode b_Book_node 44 = .ok (.iload 6, 2) := by decide +kernel
theorem d_Book_node_46 : decode b_Book_node 46 = .ok (.iload 4, 2) := by decide +kernel
theorem d_Book_node_48 : decode b_Book_node 48 = .ok (.iastore, 1) := by decide +kernel
theorem d_Book_node_49 : decode b_Book_node 49 = .ok (.aload_n 0, 1) := by decide +kernel
theorem d_Book_node_50 : decode b_Book_node 50 = .ok (.getfield 97, 3) := by decide +kernel
theorem d_Book_node_53 : decode b_Book_node 53 = .ok (.iload 6, 2) := by decide +kernel
theorem d_Book_node_55 : decode b_Book_node 55 = .ok (.iload 5, 2) := by decide +kernel
theorem d_Book_node_57 : decode b_Book_node 57 = .ok (.iastore, 1) := by decide +kernel
theorem d_Book_node_58 : decode b_Book_node 58 = .ok (.aload_n 0, 1) := by decide +kernel
theorem d_Book_node_59 : decode b_Book_node 59 = .ok (.getfield 94, 3) := by decide +kernel
theorem d_Book_node_62 : decode b_Book_node 62 = .ok (.iload 6, 2) := by decide +kernel
theorem d_Book_node_64 : decode b_Book_node 64 = .ok (.iconst (-1), 1) := by decide +kernel
theorem d_Book_node_65 : decode b_Book_node 65 = .ok (.iastore, 1) := by decide +kernel
theorem d_Book_node_66 : decode b_Book_node 66 = .ok (.aload_n 0, 1) := by decide +kernel
theorem d_Book_node_67 : decode b_Book_node 67 = .ok (.getfield 104, 3) := by decide +kernel
theorem d_Book_node_70 : decode b_Book_node 70 = .ok (.iload 6, 2) := by decide +kernel
theorem d_Book_node_72 : decode b_Book_node 72 = .ok (.iconst 0, 1) := by decide +kernel
theorem d_Book_node_73 : decode b_Book_node 73 = .ok (.bastore, 1) := by decide +kernel
theorem d_Book_node_74 : decode b_Book_node 74 = .ok (.iload 6, 2) := by decide +kernel
theorem d_Book_node_76 : decode b_Book_node 76 = .ok (.ireturn, 1) := by decide +kernel
set_option maxHeartbeats 4000000 in
set_option maxRecDepth 100000 in
theorem c_Book_node_x (l : Launch) {dA : FieldType → ClassId} {D : va_G} {al : Nat → Nat} {ext : mv_Sh} {sk sv : Nat → Nat} (hi : mv_inj (mg dA D al ext)) (σ : mv_H) (s9 x9 y9 z9 w9 : Int32) (hR : Br 74 (mv_r σ)) (n0 : 0 ≤ (mv_i σ 74 48).toInt) (n1 : (mv_i σ 74 48).toInt < 33000) : mv_C l y_Book_node (Cond.code y_Book_node b_Book_node 7 (Option.some Jvm.ClassFile.FieldType.int) :: ma) ({ frames := 0, cells := 0, slots := 0, locals := 0 }) (mg dA D al ext) (mK sk sv) [.ref (al 74), .int s9, .int x9, .int y9, .int z9, .int w9] σ (mv_Ri (fun v σ1 => v = mv_i σ 74 48 ∧ σ1 = nd 74 σ s9 x9 y9 z9 w9)) := by
  refine mv_C.ofV (cc := b_Book_node) (nL := 7) (ret := (Option.some Jvm.ClassFile.FieldType.int)) (by decide +kernel) rfl hi (Nat.le_of_ble_eq_true rfl) ?_
  intro p e s m below meth c B hNs hr hnm hno
  refine mv_aload_n (pc := 0) B d_Book_node_0 rfl 0 rfl ?_
  refine mv_getI (pc := 1) (ci := 12) (C := R_Book) (T := F_Book) (N := 65) B 48 rfl rfl (by decide) i_Book (B.2.2.2.1 _ k_1897) rfl d_Book_node_1 ?_
  refine mv_istore (pc := 4) B d_Book_node_4 (by decide) rfl ?_
  refine mv_aload_n (pc := 6) B d_Book_node_6 rfl 1 rfl ?_
  refine mv_dup (pc := 7) B d_Book_node_7 rfl ?_
  refine mv_getI (pc := 8) (ci := 12) (C := R_Book) (T := F_Book) (N := 65) B 48 rfl rfl (by decide) i_Book (B.2.2.2.1 _ k_1897) rfl d_Book_node_8 ?_
  refine mv_iconst (pc := 11) (v := 1) B d_Book_node_11 (by decide) ?_
  refine mv_iadd (pc := 12) B d_Book_node_12 ?_
  refine mv_putI (pc := 13) (ci := 12) (C := R_Book) (T := F_Book) (N := 65) B 48 rfl rfl (by decide) i_Book t_Book_ok n_Book (B.2.2.2.1 _ k_1897) rfl rfl rfl rfl d_Book_node_13 ?_
  refine mv_aload_n (pc := 16) B d_Book_node_16 rfl 1 rfl ?_
  refine mv_getR (pc := 17) (ci := 12) (C := R_Book) (T := F_Book) (N := 65) B 40 rfl rfl (by decide) i_Book (B.2.2.2.1 _ k_1889) rfl (hR.1 _ 40 _ rfl) d_Book_node_17 ?_
  refine mv_iload (pc := 20) B d_Book_node_20 0 rfl ?_
  refine mv_iload_n (pc := 22) B d_Book_node_22 rfl 2 rfl ?_
  refine mv_iast (pc := 23) B rfl (i32_in n0 n1) d_Book_node_23 ?_
  refine mv_aload_n (pc := 24) B d_Book_node_24 rfl 1 rfl ?_
  refine mv_getR (pc := 25) (ci := 12) (C := R_Book) (T := F_Book) (N := 65) B 41 rfl rfl (by decide) i_Book (B.2.2.2.1 _ k_1890) rfl (hR.1 _ 41 _ rfl) d_Book_node_25 ?_
  refine mv_iload (pc := 28) B d_Book_node_28 0 rfl ?_
  refine mv_iload_n (pc := 30) B d_Book_node_30 rfl 3 rfl ?_
  refine mv_iast (pc := 31) B rfl (i32_in n0 n1) d_Book_node_31 ?_
  refine mv_aload_n (pc := 32) B d_Book_node_32 rfl 1 rfl ?_
  refine mv_getR (pc := 33) (ci := 12) (C := R_Book) (T := F_Book) (N := 65) B 42 rfl rfl (by decide) i_Book (B.2.2.2.1 _ k_1891) rfl (hR.1 _ 42 _ rfl) d_Book_node_33 ?_
  refine mv_iload (pc := 36) B d_Book_node_36 0 rfl ?_
  refine mv_iload_n (pc := 38) B d_Book_node_38 rfl 4 rfl ?_
  refine mv_iast (pc := 39) B rfl (i32_in n0 n1) d_Book_node_39 ?_
  refine mv_aload_n (pc := 40) B d_Book_node_40 rfl 1 rfl ?_
  refine mv_getR (pc := 41) (ci := 12) (C := R_Book) (T := F_Book) (N := 65) B 43 rfl rfl (by decide) i_Book (B.2.2.2.1 _ k_1892) rfl (hR.1 _ 43 _ rfl) d_Book_node_41 ?_
  refine mv_iload (pc := 44) B d_Book_node_44 0 rfl ?_
  refine mv_iload (pc := 46) B d_Book_node_46 5 rfl ?_
  refine mv_iast (pc := 48) B rfl (i32_in n0 n1) d_Book_node_48 ?_
  refine mv_aload_n (pc := 49) B d_Book_node_49 rfl 1 rfl ?_
  refine mv_getR (pc := 50) (ci := 12) (C := R_Book) (T := F_Book) (N := 65) B 45 rfl rfl (by decide) i_Book (B.2.2.2.1 _ k_1894) rfl (hR.1 _ 45 _ rfl) d_Book_node_50 ?_
  refine mv_iload (pc := 53) B d_Book_node_53 0 rfl ?_
  refine mv_iload (pc := 55) B d_Book_node_55 6 rfl ?_
  refine mv_iast (pc := 57) B rfl (i32_in n0 n1) d_Book_node_57 ?_
  refine mv_aload_n (pc := 58) B d_Book_node_58 rfl 1 rfl ?_
  refine mv_getR (pc := 59) (ci := 12) (C := R_Book) (T := F_Book) (N := 65) B 44 rfl rfl (by decide) i_Book (B.2.2.2.1 _ k_1893) rfl (hR.1 _ 44 _ rfl) d_Book_node_59 ?_
  refine mv_iload (pc := 62) B d_Book_node_62 0 rfl ?_
  refine mv_iconst (pc := 64) (v := -1) B d_Book_node_64 (by decide) ?_
  refine mv_iast (pc := 65) B rfl (i32_in n0 n1) d_Book_node_65 ?_
  refine mv_aload_n (pc := 66) B d_Book_node_66 rfl 1 rfl ?_
  refine mv_getR (pc := 67) (ci := 12) (C := R_Book) (T := F_Book) (N := 65) B 47 rfl rfl (by decide) i_Book (B.2.2.2.1 _ k_1896) rfl (hR.1 _ 47 _ rfl) d_Book_node_67 ?_
  refine mv_iload (pc := 70) B d_Book_node_70 0 rfl ?_
  refine mv_iconst (pc := 72) (v := 0) B d_Book_node_72 (by decide) ?_
  refine mv_zast (pc := 73) B rfl (i32_in n0 n1) d_Book_node_73 ?_
  refine mv_iload (pc := 74) B d_Book_node_74 0 rfl ?_
  exact mv_iret (pc := 76) B hr rfl d_Book_node_76 (Nat.le_refl _) (Nat.le_refl _) ⟨_, rfl, rfl, rfl⟩
set_option maxHeartbeats 4000000 in
set_option maxRecDepth 100000 in
theorem c_Book_node_y (l : Launch) {dA : FieldType → ClassId} {D : va_G} {al : Nat → Nat} {ext : mv_Sh} {sk sv : Nat → Nat} (hi : mv_inj (mg dA D al ext)) (σ : mv_H) (s9 x9 y9 z9 w9 : Int32) (hR : Br 108 (mv_r σ)) (n0 : 0 ≤ (mv_i σ 108 48).toInt) (n1 : (mv_i σ 108 48).toInt < 33000) : mv_C l y_Book_node (Cond.code y_Book_node b_Book_node 7 (Option.some Jvm.ClassFile.FieldType.int) :: ma) ({ frames := 0, cells := 0, slots := 0, locals := 0 }) (mg dA D al ext) (mK sk sv) [.ref (al 108), .int s9, .int x9, .int y9, .int z9, .int w9] σ (mv_Ri (fun v σ1 => v = mv_i σ 108 48 ∧ σ1 = nd 108 σ s9 x9 y9 z9 w9)) := by
  refine mv_C.ofV (cc := b_Book_node) (nL := 7) (ret := (Option.some Jvm.ClassFile.FieldType.int)) (by decide +kernel) rfl hi (Nat.le_of_ble_eq_true rfl) ?_
  intro p e s m below meth c B hNs hr hnm hno
  refine mv_aload_n (pc := 0) B d_Book_node_0 rfl 0 rfl ?_
  refine mv_getI (pc := 1) (ci := 12) (C := R_Book) (T := F_Book) (N := 65) B 48 rfl rfl (by decide) i_Book (B.2.2.2.1 _ k_1897) rfl d_Book_node_1 ?_
  refine mv_istore (pc := 4) B d_Book_node_4 (by decide) rfl ?_
  refine mv_aload_n (pc := 6) B d_Book_node_6 rfl 1 rfl ?_
  refine mv_dup (pc := 7) B d_Book_node_7 rfl ?_
  refine mv_getI (pc := 8) (ci := 12) (C := R_Book) (T := F_Book) (N := 65) B 48 rfl rfl (by decide) i_Book (B.2.2.2.1 _ k_1897) rfl d_Book_node_8 ?_
  refine mv_iconst (pc := 11) (v := 1) B d_Book_node_11 (by decide) ?_
  refine mv_iadd (pc := 12) B d_Book_node_12 ?_
  refine mv_putI (pc := 13) (ci := 12) (C := R_Book) (T := F_Book) (N := 65) B 48 rfl rfl (by decide) i_Book t_Book_ok n_Book (B.2.2.2.1 _ k_1897) rfl rfl rfl rfl d_Book_node_13 ?_
  refine mv_aload_n (pc := 16) B d_Book_node_16 rfl 1 rfl ?_
  refine mv_getR (pc := 17) (ci := 12) (C := R_Book) (T := F_Book) (N := 65) B 40 rfl rfl (by decide) i_Book (B.2.2.2.1 _ k_1889) rfl (hR.1 _ 40 _ rfl) d_Book_node_17 ?_
  refine mv_iload (pc := 20) B d_Book_node_20 0 rfl ?_
  refine mv_iload_n (pc := 22) B d_Book_node_22 rfl 2 rfl ?_
  refine mv_iast (pc := 23) B rfl (i32_in n0 n1) d_Book_node_23 ?_
  refine mv_aload_n (pc := 24) B d_Book_node_24 rfl 1 rfl ?_
  refine mv_getR (pc := 25) (ci := 12) (C := R_Book) (T := F_Book) (N := 65) B 41 rfl rfl (by decide) i_Book (B.2.2.2.1 _ k_1890) rfl (hR.1 _ 41 _ rfl) d_Book_node_25 ?_
  refine mv_iload (pc := 28) B d_Book_node_28 0 rfl ?_
  refine mv_iload_n (pc := 30) B d_Book_node_30 rfl 3 rfl ?_
  refine mv_iast (pc := 31) B rfl (i32_in n0 n1) d_Book_node_31 ?_
  refine mv_aload_n (pc := 32) B d_Book_node_32 rfl 1 rfl ?_
  refine mv_getR (pc := 33) (ci := 12) (C := R_Book) (T := F_Book) (N := 65) B 42 rfl rfl (by decide) i_Book (B.2.2.2.1 _ k_1891) rfl (hR.1 _ 42 _ rfl) d_Book_node_33 ?_
  refine mv_iload (pc := 36) B d_Book_node_36 0 rfl ?_
  refine mv_iload_n (pc := 38) B d_Book_node_38 rfl 4 rfl ?_
  refine mv_iast (pc := 39) B rfl (i32_in n0 n1) d_Book_node_39 ?_
  refine mv_aload_n (pc := 40) B d_Book_node_40 rfl 1 rfl ?_
  refine mv_getR (pc := 41) (ci := 12) (C := R_Book) (T := F_Book) (N := 65) B 43 rfl rfl (by decide) i_Book (B.2.2.2.1 _ k_1892) rfl (hR.1 _ 43 _ rfl) d_Book_node_41 ?_
  refine mv_iload (pc := 44) B d_Book_node_44 0 rfl ?_
  refine mv_iload (pc := 46) B d_Book_node_46 5 rfl ?_
  refine mv_iast (pc := 48) B rfl (i32_in n0 n1) d_Book_node_48 ?_
  refine mv_aload_n (pc := 49) B d_Book_node_49 rfl 1 rfl ?_
  refine mv_getR (pc := 50) (ci := 12) (C := R_Book) (T := F_Book) (N := 65) B 45 rfl rfl (by decide) i_Book (B.2.2.2.1 _ k_1894) rfl (hR.1 _ 45 _ rfl) d_Book_node_50 ?_
  refine mv_iload (pc := 53) B d_Book_node_53 0 rfl ?_
  refine mv_iload (pc := 55) B d_Book_node_55 6 rfl ?_
  refine mv_iast (pc := 57) B rfl (i32_in n0 n1) d_Book_node_57 ?_
  refine mv_aload_n (pc := 58) B d_Book_node_58 rfl 1 rfl ?_
  refine mv_getR (pc := 59) (ci := 12) (C := R_Book) (T := F_Book) (N := 65) B 44 rfl rfl (by decide) i_Book (B.2.2.2.1 _ k_1893) rfl (hR.1 _ 44 _ rfl) d_Book_node_59 ?_
  refine mv_iload (pc := 62) B d_Book_node_62 0 rfl ?_
  refine mv_iconst (pc := 64) (v := -1) B d_Book_node_64 (by decide) ?_
  refine mv_iast (pc := 65) B rfl (i32_in n0 n1) d_Book_node_65 ?_
  refine mv_aload_n (pc := 66) B d_Book_node_66 rfl 1 rfl ?_
  refine mv_getR (pc := 67) (ci := 12) (C := R_Book) (T := F_Book) (N := 65) B 47 rfl rfl (by decide) i_Book (B.2.2.2.1 _ k_1896) rfl (hR.1 _ 47 _ rfl) d_Book_node_67 ?_
  refine mv_iload (pc := 70) B d_Book_node_70 0 rfl ?_
  refine mv_iconst (pc := 72) (v := 0) B d_Book_node_72 (by decide) ?_
  refine mv_zast (pc := 73) B rfl (i32_in n0 n1) d_Book_node_73 ?_
  refine mv_iload (pc := 74) B d_Book_node_74 0 rfl ?_
  exact mv_iret (pc := 76) B hr rfl d_Book_node_76 (Nat.le_refl _) (Nat.le_refl _) ⟨_, rfl, rfl, rfl⟩
def y_Book_text_0 : MethodName := ⟨"MachineLoomModel$Book", "text", "(Ljava/lang/String;II)Z"⟩
abbrev b_Book_text_0 : ByteArray := prog_15_method_17_code
theorem kc_Book_text_0 : Cond.code y_Book_text_0 b_Book_text_0 5 (Option.some Jvm.ClassFile.FieldType.boolean) ∈ ma := ma_of (tb_10 _ (List.mem_of_getElem? (i := 10) rfl)) rfl
theorem k_2171 : (Jvm.Cond.methodLink "MachineLoomModel$Book" (210 : Nat) ({ cls := "java/lang/String", name := "length", desc := "()I" } : Jvm.MethodName)) ∈ ma := ma_of (tb_10 _ (List.mem_of_getElem? (i := 11) rfl)) rfl
theorem k_2172 : (Jvm.Cond.methodLink "MachineLoomModel$Book" (215 : Nat) ({ cls := "java/lang/String", name := "charAt", desc := "(I)C" } : Jvm.MethodName)) ∈ ma := ma_of (tb_10 _ (List.mem_of_getElem? (i := 12) rfl)) rfl
theorem d_Book_text_0_0 : decode b_Book_text_0 0 = .ok (.iload_n 3, 1) := by decide +kernel
theorem d_Book_text_0_1 : decode b_Book_text_0 1 = .ok (.iload_n 2, 1) := by decide +kernel
theorem d_Book_text_0_2 : decode b_Book_text_0 2 = .ok (.isub, 1) := by decide +kernel
theorem d_Book_text_0_3 : decode b_Book_text_0 3 = .ok (.aload_n 1, 1) := by decide +kernel
theorem d_Book_text_0_4 : decode b_Book_text_0 4 = .ok (.invokevirtual 210, 3) := by decide +kernel
theorem d_Book_text_0_7 : decode b_Book_text_0 7 = .ok (.if_icmp .eq (5), 3) := by decide +kernel
theorem d_Book_text_0_10 : decode b_Book_text_0 10 = .ok (.iconst 0, 1) := by decide +kernel
theorem d_Book_text_0_11 : decode b_Book_text_0 11 = .ok (.ireturn, 1) := by decide +kernel
theorem d_Book_text_0_12 : decode b_Book_text_0 12 = .ok (.iconst 0, 1) := by decide +kernel
theorem d_Book_text_0_13 : decode b_Book_text_0 13 = .ok (.istore 4, 2) := by decide +kernel
theorem d_Book_text_0_15 : decode b_Book_text_0 15 = .ok (.iload 4, 2) := by decide +kernel
theorem d_Book_text_0_17 : decode b_Book_text_0 17 = .ok (.aload_n 1, 1) := by decide +kernel
theorem d_Book_text_0_18 : decode b_Book_text_0 18 = .ok (.invokevirtual 210, 3) := by decide +kernel
theorem d_Book_text_0_21 : decode b_Book_text_0 21 = .ok (.if_icmp .ge (28), 3) := by decide +kernel
theorem d_Book_text_0_24 : decode b_Book_text_0 24 = .ok (.aload_n 0, 1) := by decide +kernel
theorem d_Book_text_0_25 : decode b_Book_text_0 25 = .ok (.iload_n 2, 1) := by decide +kernel
theorem d_Book_text_0_26 : decode b_Book_text_0 26 = .ok (.iload 4, 2) := by decide +kernel
theorem d_Book_text_0_28 : decode b_Book_text_0 28 = .ok (.iadd, 1) := by decide +kernel
theorem d_Book_text_0_29 : decode b_Book_text_0 29 = .ok (.invokevirtual 145, 3) := by decide +kernel
theorem d_Book_text_0_32 : decode b_Book_text_0 32 = .ok (.aload_n 1, 1) := by decide +kernel
theorem d_Book_text_0_33 : decode b_Book_text_0 33 = .ok (.iload 4, 2) := by decide +kernel
theorem d_Book_text_0_35 : decode b_Book_text_0 35 = .ok (.invokevirtual 215, 3) := by decide +kernel
theorem d_Book_text_0_38 : decode b_Book_text_0 38 = .ok (.if_icmp .eq (5), 3) := by decide +kernel
theorem d_Book_text_0_41 : decode b_Book_text_0 41 = .ok (.iconst 0, 1) := by decide +kernel
theorem d_Book_text_0_42 : decode b_Book_text_0 42 = .ok (.ireturn, 1) := by decide +kernel
theorem d_Book_text_0_43 : decode b_Book_text_0 43 = .ok (.iinc 4 (1), 3) := by decide +kernel
theorem d_Book_text_0_46 : decode b_Book_text_0 46 = .ok (.goto (-31), 3) := by decide +kernel
theorem d_Book_text_0_49 : decode b_Book_text_0 49 = .ok (.iconst 1, 1) := by decide +kernel
theorem d_Book_text_0_50 : decode b_Book_text_0 50 = .ok (.ireturn, 1) := by decide +kernel
set_option maxHeartbeats 4000000 in
set_option maxRecDepth 100000 in
theorem c_Book_text_0_x (l : Launch) {dA : FieldType → ClassId} {D : va_G} {al : Nat → Nat} {ext : mv_Sh} {sk sv : Nat → Nat} (hi : mv_inj (mg dA D al ext)) (σ : mv_H) (i9 : Nat) (hi9 : i9 < st_t.length) (a9 b9 : Int32) (len : Nat) (hR : Br 74 (mv_r σ)) (hz : (mv_i σ 74 2).toInt = len) (hl : len ≤ 10240) (h1 : Sp len a9 b9) : mv_C l y_Book_text_0 (Cond.code y_Book_text_0 b_Book_text_0 5 (Option.some Jvm.ClassFile.FieldType.boolean) :: ma) ({ frames := 4, cells := 0, slots := 0, locals := 85 }) (mg dA D al ext) (mK sk sv) [.ref (al 74), .ref (sk i9), .int a9, .int b9] σ (mv_Ri (fun v σ1 => σ1 = σ ∧ (v = 0 ∨ v = 1))) := by
  refine mv_C.ofV (cc := b_Book_text_0) (nL := 5) (ret := (Option.some Jvm.ClassFile.FieldType.boolean)) (by decide +kernel) rfl hi (Nat.le_of_ble_eq_true rfl) ?_
  intro p e s m below meth c B hNs hr hnm hno
  obtain ⟨g1, g2, g3⟩ := h1
  have hll := st_l9 i9 hi9
  have lp : ∀ (nn : Nat) (j9 : Int32) (q0 : 0 ≤ j9.toInt), (20000 - j9.toInt).toNat < nn → mv_V p l e ({ frames := 4, cells := 0, slots := 0, locals := 85 }) s m ([.ref (al 74), .ref (sk i9), .int a9, .int b9] : List Value).toArray below meth c (mg dA D al ext) 5 0 0 (mv_Q (mg dA D al ext) below s 0 0 (mv_Ri (fun v σ1 => σ1 = σ ∧ (v = 0 ∨ v = 1)))) σ 15 [(4, .int j9), (0, .ref (al 74)), (1, .ref (sk i9)), (2, .int a9), (3, .int b9)] [] := by
    intro nn
    induction nn with
    | zero => intro j9 q0 hm; exact absurd hm (Nat.not_lt_zero _)
    | succ nn ih =>
      intro j9 q0 hm
      refine mv_iload (pc := 15) B d_Book_text_0_15 0 rfl ?_
      refine mv_aload_n (pc := 17) B d_Book_text_0_17 rfl 2 rfl ?_
      refine mv_callVOi (pc := 18) (n := 0) B (mK_ok sk sv) hNs (hNs.2.1 i9 hi9).2.1 (c_String_length l hi _ i9 hi9) rfl (ma_goodc kc_String_length) (B.2.2.2.1 _ k_2171) (B.2.2.2.1 _ k_546) (B.2.2.2.1 _ k_547) (B.2.2.2.1 _ k_21) ⟨by decide +kernel, by decide +kernel, by decide +kernel⟩ rfl d_Book_text_0_18 rfl (Nat.le_of_ble_eq_true rfl) ⟨by decide, by decide⟩ ⟨by decide, by decide⟩ ⟨by decide, by decide⟩ (mv_noH hno _) (fun v18 σ18 h18 => ?_)
      obtain ⟨e18, z18⟩ := h18
      have e18 := e18.symm
      subst e18
      refine mv_icmp_ge (pc := 21) (tgt := 49) B d_Book_text_0_21 rfl (fun h21 => ?_) (fun h21 => ?_)
      · skip
        refine mv_iconst (pc := 49) (v := 1) B d_Book_text_0_49 (by decide) ?_
        exact mv_iret (pc := 50) B hr rfl d_Book_text_0_50 (Nat.le_refl _) (Nat.le_refl _) ⟨_, rfl, rfl, by first | exact Or.inl rfl | exact Or.inr rfl⟩
      · skip
        rw [Int32.le_iff_toInt_le] at h21
        have w2 : (j9 + 1).toInt = j9.toInt + 1 := i32_inc (by omega)
        refine mv_aload_n (pc := 24) B d_Book_text_0_24 rfl 1 rfl ?_
        refine mv_iload_n (pc := 25) B d_Book_text_0_25 rfl 3 rfl ?_
        refine mv_iload (pc := 26) B d_Book_text_0_26 0 rfl ?_
        refine mv_iadd (pc := 28) B d_Book_text_0_28 ?_
        refine mv_topi (fun y28 ey28 => ?_)
        have fy28 := i32_addE ey28 (by (try simp only [Int32.reduceToInt]); omega) (by (try simp only [Int32.reduceToInt]); omega)
        try simp only [Int32.reduceToInt] at fy28
        refine mv_callVi (pc := 29) (n := 1) (ci := 12) (C := R_Book) B (mK_ok sk sv) hNs rfl rfl (c_Book_look_x l hi _ _ len hR hz hl (show 0 ≤ y28.toInt by omega)) rfl (ma_goodc kc_Book_look) (B.2.2.2.1 _ k_2122) (B.2.2.2.1 _ k_2124) (B.2.2.2.1 _ ks_82) (B.2.2.2.1 _ k_13) ⟨by decide +kernel, by decide +kernel, by decide +kernel⟩ rfl d_Book_text_0_29 rfl (Nat.le_of_ble_eq_true rfl) ⟨by decide, by decide⟩ ⟨by decide, by decide⟩ ⟨by decide, by decide⟩ (mv_noH hno _) (fun v29 σ29 h29 => ?_)
        obtain ⟨e29, w29, z29⟩ := h29
        have e29 := e29.symm
        subst e29
        refine mv_aload_n (pc := 32) B d_Book_text_0_32 rfl 2 rfl ?_
        refine mv_iload (pc := 33) B d_Book_text_0_33 0 rfl ?_
        refine mv_callVOi (pc := 35) (n := 1) B (mK_ok sk sv) hNs (hNs.2.1 i9 hi9).2.1 (c_String_charAt l hi _ i9 hi9 _ q0 (by omega)) rfl (ma_goodc kc_String_charAt) (B.2.2.2.1 _ k_2172) (B.2.2.2.1 _ k_556) (B.2.2.2.1 _ k_557) (B.2.2.2.1 _ k_21) ⟨by decide +kernel, by decide +kernel, by decide +kernel⟩ rfl d_Book_text_0_35 rfl (Nat.le_of_ble_eq_true rfl) ⟨by decide, by decide⟩ ⟨by decide, by decide⟩ ⟨by decide, by decide⟩ (mv_noH hno _) (fun v35 σ35 h35 => ?_)
        obtain ⟨e35, z35⟩ := h35
        have e35 := e35.symm
        subst e35
        refine mv_icmp_eq (pc := 38) (tgt := 43) B d_Book_text_0_38 rfl (fun h38 => ?_) (fun h38 => ?_)
        · skip
          refine mv_iinc (pc := 43) (j := 0) (v := 1) B d_Book_text_0_43 rfl (by decide) (by decide) rfl ?_
          refine mv_goto (pc := 46) (tgt := 15) B d_Book_text_0_46 rfl ?_
          refine mv_lpick [0, 1, 2, 3, 4] rfl ?_
          exact ih _ (by omega) (by omega)
        · skip
          refine mv_iconst (pc := 41) (v := 0) B d_Book_text_0_41 (by decide) ?_
          exact mv_iret (pc := 42) B hr rfl d_Book_text_0_42 (Nat.le_refl _) (Nat.le_refl _) ⟨_, rfl, rfl, by first | exact Or.inl rfl | exact Or.inr rfl⟩
  refine mv_iload_n (pc := 0) B d_Book_text_0_0 rfl 3 rfl ?_
  refine mv_iload_n (pc := 1) B d_Book_text_0_1 rfl 2 rfl ?_
  refine mv_isub (pc := 2) B d_Book_text_0_2 ?_
  refine mv_topi (fun y2 ey2 => ?_)
  have fy2 := i32_subE ey2 (by (try simp only [Int32.reduceToInt]); omega) (by (try simp only [Int32.reduceToInt]); omega)
  try simp only [Int32.reduceToInt] at fy2
  refine mv_aload_n (pc := 3) B d_Book_text_0_3 rfl 1 rfl ?_
  refine mv_callVOi (pc := 4) (n := 0) B (mK_ok sk sv) hNs (hNs.2.1 i9 hi9).2.1 (c_String_length l hi _ i9 hi9) rfl (ma_goodc kc_String_length) (B.2.2.2.1 _ k_2171) (B.2.2.2.1 _ k_546) (B.2.2.2.1 _ k_547) (B.2.2.2.1 _ k_21) ⟨by decide +kernel, by decide +kernel, by decide +kernel⟩ rfl d_Book_text_0_4 rfl (Nat.le_of_ble_eq_true rfl) ⟨by decide, by decide⟩ ⟨by decide, by decide⟩ ⟨by decide, by decide⟩ (mv_noH hno _) (fun v4 σ4 h4 => ?_)
  obtain ⟨e4, z4⟩ := h4
  have e4 := e4.symm
  subst e4
  refine mv_icmp_eq (pc := 7) (tgt := 12) B d_Book_text_0_7 rfl (fun h7 => ?_) (fun h7 => ?_)
  · skip
    refine mv_iconst (pc := 12) (v := 0) B d_Book_text_0_12 (by decide) ?_
    refine mv_istore (pc := 13) B d_Book_text_0_13 (by decide) rfl ?_
    refine mv_lpick [0, 1, 2, 3, 4] rfl ?_
    exact lp _ _ (by decide) (Nat.lt_succ_self _)
  · skip
    refine mv_iconst (pc := 10) (v := 0) B d_Book_text_0_10 (by decide) ?_
    exact mv_iret (pc := 11) B hr rfl d_Book_text_0_11 (Nat.le_refl _) (Nat.le_refl _) ⟨_, rfl, rfl, by first | exact Or.inl rfl | exact Or.inr rfl⟩
set_option maxHeartbeats 4000000 in
set_option maxRecDepth 100000 in
theorem c_Book_text_0_y (l : Launch) {dA : FieldType → ClassId} {D : va_G} {al : Nat → Nat} {ext : mv_Sh} {sk sv : Nat → Nat} (hi : mv_inj (mg dA D al ext)) (σ : mv_H) (i9 : Nat) (hi9 : i9 < st_t.length) (a9 b9 : Int32) (len : Nat) (hR : Br 108 (mv_r σ)) (hz : (mv_i σ 108 2).toInt = len) (hl : len ≤ 10240) (h1 : Sp len a9 b9) : mv_C l y_Book_text_0 (Cond.code y_Book_text_0 b_Book_text_0 5 (Option.some Jvm.ClassFile.FieldType.boolean) :: ma) ({ frames := 4, cells := 0, slots := 0, locals := 85 }) (mg dA D al ext) (mK sk sv) [.ref (al 108), .ref (sk i9), .int a9, .int b9] σ (mv_Ri (fun v σ1 => σ1 = σ ∧ (v = 0 ∨ v = 1))) := by
  refine mv_C.ofV (cc := b_Book_text_0) (nL := 5) (ret := (Option.some Jvm.ClassFile.FieldType.boolean)) (by decide +kernel) rfl hi (Nat.le_of_ble_eq_true rfl) ?_
  intro p e s m below meth c B hNs hr hnm hno
  obtain ⟨g1, g2, g3⟩ := h1
  have hll := st_l9 i9 hi9
  have lp : ∀ (nn : Nat) (j9 : Int32) (q0 : 0 ≤ j9.toInt), (20000 - j9.toInt).toNat < nn → mv_V p l e ({ frames := 4, cells := 0, slots := 0, locals := 85 }) s m ([.ref (al 108), .ref (sk i9), .int a9, .int b9] : List Value).toArray below meth c (mg dA D al ext) 5 0 0 (mv_Q (mg dA D al ext) below s 0 0 (mv_Ri (fun v σ1 => σ1 = σ ∧ (v = 0 ∨ v = 1)))) σ 15 [(4, .int j9), (0, .ref (al 108)), (1, .ref (sk i9)), (2, .int a9), (3, .int b9)] [] := by
    intro nn
    induction nn with
    | zero => intro j9 q0 hm; exact absurd hm (Nat.not_lt_zero _)
    | succ nn ih =>
      intro j9 q0 hm
      refine mv_iload (pc := 15) B d_Book_text_0_15 0 rfl ?_
      refine mv_aload_n (pc := 17) B d_Book_text_0_17 rfl 2 rfl ?_
      refine mv_callVOi (pc := 18) (n := 0) B (mK_ok sk sv) hNs (hNs.2.1 i9 hi9).2.1 (c_String_length l hi _ i9 hi9) rfl (ma_goodc kc_String_length) (B.2.2.2.1 _ k_2171) (B.2.2.2.1 _ k_546) (B.2.2.2.1 _ k_547) (B.2.2.2.1 _ k_21) ⟨by decide +kernel, by decide +kernel, by decide +kernel⟩ rfl d_Book_text_0_18 rfl (Nat.le_of_ble_eq_true rfl) ⟨by decide, by decide⟩ ⟨by decide, by decide⟩ ⟨by decide, by decide⟩ (mv_noH hno _) (fun v18 σ18 h18 => ?_)
      obtain ⟨e18, z18⟩ := h18
      have e18 := e18.symm
      subst e18
      refine mv_icmp_ge (pc := 21) (tgt := 49) B d_Book_text_0_21 rfl (fun h21 => ?_) (fun h21 => ?_)
      · skip
        refine mv_iconst (pc := 49) (v := 1) B d_Book_text_0_49 (by decide) ?_
        exact mv_iret (pc := 50) B hr rfl d_Book_text_0_50 (Nat.le_refl _) (Nat.le_refl _) ⟨_, rfl, rfl, by first | exact Or.inl rfl | exact Or.inr rfl⟩
      · skip
        rw [Int32.le_iff_toInt_le] at h21
        have w2 : (j9 + 1).toInt = j9.toInt + 1 := i32_inc (by omega)
        refine mv_aload_n (pc := 24) B d_Book_text_0_24 rfl 1 rfl ?_
        refine mv_iload_n (pc := 25) B d_Book_text_0_25 rfl 3 rfl ?_
        refine mv_iload (pc := 26) B d_Book_text_0_26 0 rfl ?_
        refine mv_iadd (pc := 28) B d_Book_text_0_28 ?_
        refine mv_topi (fun y28 ey28 => ?_)
        have fy28 := i32_addE ey28 (by (try simp only [Int32.reduceToInt]); omega) (by (try simp only [Int32.reduceToInt]); omega)
        try simp only [Int32.reduceToInt] at fy28
        refine mv_callVi (pc := 29) (n := 1) (ci := 12) (C := R_Book) B (mK_ok sk sv) hNs rfl rfl (c_Book_look_y l hi _ _ len hR hz hl (show 0 ≤ y28.toInt by omega)) rfl (ma_goodc kc_Book_look) (B.2.2.2.1 _ k_2122) (B.2.2.2.1 _ k_2124) (B.2.2.2.1 _ ks_82) (B.2.2.2.1 _ k_13) ⟨by decide +kernel, by decide +kernel, by decide +kernel⟩ rfl d_Book_text_0_29 rfl (Nat.le_of_ble_eq_true rfl) ⟨by decide, by decide⟩ ⟨by decide, by decide⟩ ⟨by decide, by decide⟩ (mv_noH hno _) (fun v29 σ29 h29 => ?_)
        obtain ⟨e29, w29, z29⟩ := h29
        have e29 := e29.symm
        subst e29
        refine mv_aload_n (pc := 32) B d_Book_text_0_32 rfl 2 rfl ?_
        refine mv_iload (pc := 33) B d_Book_text_0_33 0 rfl ?_
        refine mv_callVOi (pc := 35) (n := 1) B (mK_ok sk sv) hNs (hNs.2.1 i9 hi9).2.1 (c_String_charAt l hi _ i9 hi9 _ q0 (by omega)) rfl (ma_goodc kc_String_charAt) (B.2.2.2.1 _ k_2172) (B.2.2.2.1 _ k_556) (B.2.2.2.1 _ k_557) (B.2.2.2.1 _ k_21) ⟨by decide +kernel, by decide +kernel, by decide +kernel⟩ rfl d_Book_text_0_35 rfl (Nat.le_of_ble_eq_true rfl) ⟨by decide, by decide⟩ ⟨by decide, by decide⟩ ⟨by decide, by decide⟩ (mv_noH hno _) (fun v35 σ35 h35 => ?_)
        obtain ⟨e35, z35⟩ := h35
        have e35 := e35.symm
        subst e35
        refine mv_icmp_eq (pc := 38) (tgt := 43) B d_Book_text_0_38 rfl (fun h38 => ?_) (fun h38 => ?_)
        · skip
          refine mv_iinc (pc := 43) (j := 0) (v := 1) B d_Book_text_0_43 rfl (by decide) (by decide) rfl ?_
          refine mv_goto (pc := 46) (tgt := 15) B d_Book_text_0_46 rfl ?_
          refine mv_lpick [0, 1, 2, 3, 4] rfl ?_
          exact ih _ (by omega) (by omega)
        · skip
          refine mv_iconst (pc := 41) (v := 0) B d_Book_text_0_41 (by decide) ?_
          exact mv_iret (pc := 42) B hr rfl d_Book_text_0_42 (Nat.le_refl _) (Nat.le_refl _) ⟨_, rfl, rfl, by first | exact Or.inl rfl | exact Or.inr rfl⟩
  refine mv_iload_n (pc := 0) B d_Book_text_0_0 rfl 3 rfl ?_
  refine mv_iload_n (pc := 1) B d_Book_text_0_1 rfl 2 rfl ?_
  refine mv_isub (pc := 2) B d_Book_text_0_2 ?_
  refine mv_topi (fun y2 ey2 => ?_)
  have fy2 := i32_subE ey2 (by (try simp only [Int32.reduceToInt]); omega) (by (try simp only [Int32.reduceToInt]); omega)
  try simp only [Int32.reduceToInt] at fy2
  refine mv_aload_n (pc := 3) B d_Book_text_0_3 rfl 1 rfl ?_
  refine mv_callVOi (pc := 4) (n := 0) B (mK_ok sk sv) hNs (hNs.2.1 i9 hi9).2.1 (c_String_length l hi _ i9 hi9) rfl (ma_goodc kc_String_length) (B.2.2.2.1 _ k_2171) (B.2.2.2.1 _ k_546) (B.2.2.2.1 _ k_547) (B.2.2.2.1 _ k_21) ⟨by decide +kernel, by decide +kernel, by decide +kernel⟩ rfl d_Book_text_0_4 rfl (Nat.le_of_ble_eq_true rfl) ⟨by decide, by decide⟩ ⟨by decide, by decide⟩ ⟨by decide, by decide⟩ (mv_noH hno _) (fun v4 σ4 h4 => ?_)
  obtain ⟨e4, z4⟩ := h4
  have e4 := e4.symm
  subst e4
  refine mv_icmp_eq (pc := 7) (tgt := 12) B d_Book_text_0_7 rfl (fun h7 => ?_) (fun h7 => ?_)
  · skip
    refine mv_iconst (pc := 12) (v := 0) B d_Book_text_0_12 (by decide) ?_
    refine mv_istore (pc := 13) B d_Book_text_0_13 (by decide) rfl ?_
    refine mv_lpick [0, 1, 2, 3, 4] rfl ?_
    exact lp _ _ (by decide) (Nat.lt_succ_self _)
  · skip
    refine mv_iconst (pc := 10) (v := 0) B d_Book_text_0_10 (by decide) ?_
    exact mv_iret (pc := 11) B hr rfl d_Book_text_0_11 (Nat.le_refl _) (Nat.le_refl _) ⟨_, rfl, rfl, by first | exact Or.inl rfl | exact Or.inr rfl⟩
def y_Book_is : MethodName := ⟨"MachineLoomModel$Book", "is", "(Ljava/lang/String;)Z"⟩
abbrev b_Book_is : ByteArray := prog_15_method_16_code
theorem kc_Book_is : Cond.code y_Book_is b_Book_is 2 (Option.some Jvm.ClassFile.FieldType.boolean) ∈ ma := ma_of (tb_10 _ (List.mem_of_getElem? (i := 6) rfl)) rfl
theorem k_2167 : (Jvm.Cond.methodLink "MachineLoomModel$Book" (206 : Nat) ({ cls := "MachineLoomModel$Book", name := "text", desc := "(Ljava/lang/String;II)Z" } : Jvm.MethodName)) ∈ ma := ma_of (tb_10 _ (List.mem_of_getElem? (i := 7) rfl)) rfl
theorem k_2169 : (Jvm.Cond.instanceMethod ({ cls := "MachineLoomModel$Book", name := "text", desc := "(Ljava/lang/String;II)Z" } : Jvm.MethodName)) ∈ ma := ma_of (tb_10 _ (List.mem_of_getElem? (i := 9) rfl)) rfl
theorem ks_89 : Cond.selects "MachineLoomModel$Book" ⟨"MachineLoomModel$Book", "text", "(Ljava/lang/String;II)Z"⟩ ⟨"MachineLoomModel$Book", "text", "(Ljava/lang/String;II)Z"⟩ ∈ ma := ma_sel 89 rfl rfl
theorem d_Book_is_0 : decode b_Book_is 0 = .ok (.aload_n 0, 1) := by decide +kernel
theorem d_Book_is_1 : decode b_Book_is 1 = .ok (.getfield 151, 3) := by decide +kernel
theorem d_Book_is_4 : decode b_Book_is 4 = .ok (.iconst 1, 1) := by decide +kernel
theorem d_Book_is_5 : decode b_Book_is 5 = .ok (.if_icmp .ne (23), 3) := by decide +kernel
theorem d_Book_is_8 : decode b_Book_is 8 = .ok (.aload_n 0, 1) := by decide +kernel
theorem d_Book_is_9 : decode b_Book_is 9 = .ok (.aload_n 1, 1) := by decide +kernel
theorem d_Book_is_10 : decode b_Book_is 10 = .ok (.aload_n 0, 1) := by decide +kernel
theorem d_Book_is_11 : decode b_Book_is 11 = .ok (.getfield 174, 3) := by decide +kernel
theorem d_Book_is_14 : decode b_Book_is 14 = .ok (.aload_n 0, 1) := by decide +kernel
theorem d_Book_is_15 : decode b_Book_is 15 = .ok (.getfield 190, 3) := by decide +kernel
theorem d_Book_is_18 : decode b_Book_is 18 = .ok (.invokevirtual 206, 3) := by decide +kernel
theorem d_Book_is_21 : decode b_Book_is 21 = .ok (.ifCond .eq (7), 3) := by decide +kernel
theorem d_Book_is_24 : decode b_Book_is 24 = .ok (.iconst 1, 1) := by decide +kernel
theorem d_Book_is_25 : decode b_Book_is 25 = .ok (.goto (4), 3) := by decide +kernel
theorem d_Book_is_28 : decode b_Book_is 28 = .ok (.iconst 0, 1) := by decide +kernel
theorem d_Book_is_29 : decode b_Book_is 29 = .ok (.ireturn, 1) := by decide +kernel
set_option maxHeartbeats 4000000 in
set_option maxRecDepth 100000 in
theorem c_Book_is_x (l : Launch) {dA : FieldType → ClassId} {D : va_G} {al : Nat → Nat} {ext : mv_Sh} {sk sv : Nat → Nat} (hi : mv_inj (mg dA D al ext)) (σ : mv_H) (i9 : Nat) (hi9 : i9 < st_t.length) (len a1 a2 : Nat) (hQ : Tq 74 len σ σ a1 a2) : mv_C l y_Book_is (Cond.code y_Book_is b_Book_is 2 (Option.some Jvm.ClassFile.FieldType.boolean) :: ma) ({ frames := 5, cells := 0, slots := 0, locals := 109 }) (mg dA D al ext) (mK sk sv) [.ref (al 74), .ref (sk i9)] σ (mv_Ri (fun v σ1 => σ1 = σ ∧ (v = 0 ∨ (v = 1 ∧ mv_i σ 74 4 = 1)))) := by
  refine mv_C.ofV (cc := b_Book_is) (nL := 2) (ret := (Option.some Jvm.ClassFile.FieldType.boolean)) (by decide +kernel) rfl hi (Nat.le_of_ble_eq_true rfl) ?_
  intro p e s m below meth c B hNs hr hnm hno
  refine mv_aload_n (pc := 0) B d_Book_is_0 rfl 0 rfl ?_
  refine mv_getI (pc := 1) (ci := 12) (C := R_Book) (T := F_Book) (N := 65) B 4 rfl rfl (by decide) i_Book (B.2.2.2.1 _ k_1847) rfl d_Book_is_1 ?_
  refine mv_iconst (pc := 4) (v := 1) B d_Book_is_4 (by decide) ?_
  refine mv_icmp_ne (pc := 5) (tgt := 28) B d_Book_is_5 rfl (fun h5 => ?_) (fun h5 => ?_)
  · skip
    refine mv_iconst (pc := 28) (v := 0) B d_Book_is_28 (by decide) ?_
    exact mv_iret (pc := 29) B hr rfl d_Book_is_29 (Nat.le_refl _) (Nat.le_refl _) ⟨_, rfl, rfl, by first | exact Or.inl rfl | exact Or.inr ⟨rfl, h5⟩⟩
  · skip
    refine mv_aload_n (pc := 8) B d_Book_is_8 rfl 0 rfl ?_
    refine mv_aload_n (pc := 9) B d_Book_is_9 rfl 1 rfl ?_
    refine mv_aload_n (pc := 10) B d_Book_is_10 rfl 0 rfl ?_
    refine mv_getI (pc := 11) (ci := 12) (C := R_Book) (T := F_Book) (N := 65) B 5 rfl rfl (by decide) i_Book (B.2.2.2.1 _ k_1848) rfl d_Book_is_11 ?_
    refine mv_aload_n (pc := 14) B d_Book_is_14 rfl 0 rfl ?_
    refine mv_getI (pc := 15) (ci := 12) (C := R_Book) (T := F_Book) (N := 65) B 6 rfl rfl (by decide) i_Book (B.2.2.2.1 _ k_1849) rfl d_Book_is_15 ?_
    refine mv_callVi (pc := 18) (n := 3) (ci := 12) (C := R_Book) B (mK_ok sk sv) hNs rfl rfl (c_Book_text_0_x l hi _ i9 hi9 _ _ len hQ.1.2.1 hQ.1.2.2.1 hQ.1.2.2.2.2.2 hQ.sp) rfl (ma_goodc kc_Book_text_0) (B.2.2.2.1 _ k_2167) (B.2.2.2.1 _ k_2169) (B.2.2.2.1 _ ks_89) (B.2.2.2.1 _ k_13) ⟨by decide +kernel, by decide +kernel, by decide +kernel⟩ rfl d_Book_is_18 rfl (Nat.le_of_ble_eq_true rfl) ⟨by decide, by decide⟩ ⟨by decide, by decide⟩ ⟨by decide, by decide⟩ (mv_noH hno _) (fun v18 σ18 h18 => ?_)
    obtain ⟨e18, z18⟩ := h18
    have e18 := e18.symm
    subst e18
    refine mv_if_eq (pc := 21) (tgt := 28) B d_Book_is_21 rfl (fun h21 => ?_) (fun h21 => ?_)
    · skip
      refine mv_iconst (pc := 28) (v := 0) B d_Book_is_28 (by decide) ?_
      exact mv_iret (pc := 29) B hr rfl d_Book_is_29 (Nat.le_refl _) (Nat.le_refl _) ⟨_, rfl, rfl, by first | exact Or.inl rfl | exact Or.inr ⟨rfl, h5⟩⟩
    · skip
      refine mv_iconst (pc := 24) (v := 1) B d_Book_is_24 (by decide) ?_
      refine mv_goto (pc := 25) (tgt := 29) B d_Book_is_25 rfl ?_
      exact mv_iret (pc := 29) B hr rfl d_Book_is_29 (Nat.le_refl _) (Nat.le_refl _) ⟨_, rfl, rfl, by first | exact Or.inl rfl | exact Or.inr ⟨rfl, h5⟩⟩
set_option maxHeartbeats 4000000 in
set_option maxRecDepth 100000 in
theorem c_Book_is_y (l : Launch) {dA : FieldType → ClassId} {D : va_G} {al : Nat → Nat} {ext : mv_Sh} {sk sv : Nat → Nat} (hi : mv_inj (mg dA D al ext)) (σ : mv_H) (i9 : Nat) (hi9 : i9 < st_t.length) (len a1 a2 : Nat) (hQ : Tq 108 len σ σ a1 a2) : mv_C l y_Book_is (Cond.code y_Book_is b_Book_is 2 (Option.some Jvm.ClassFile.FieldType.boolean) :: ma) ({ frames := 5, cells := 0, slots := 0, locals := 109 }) (mg dA D al ext) (mK sk sv) [.ref (al 108), .ref (sk i9)] σ (mv_Ri (fun v σ1 => σ1 = σ ∧ (v = 0 ∨ (v = 1 ∧ mv_i σ 108 4 = 1)))) := by
  refine mv_C.ofV (cc := b_Book_is) (nL := 2) (ret := (Option.some Jvm.ClassFile.FieldType.boolean)) (by decide +kernel) rfl hi (Nat.le_of_ble_eq_true rfl) ?_
  intro p e s m below meth c B hNs hr hnm hno
  refine mv_aload_n (pc := 0) B d_Book_is_0 rfl 0 rfl ?_
  refine mv_getI (pc := 1) (ci := 12) (C := R_Book) (T := F_Book) (N := 65) B 4 rfl rfl (by decide) i_Book (B.2.2.2.1 _ k_1847) rfl d_Book_is_1 ?_
  refine mv_iconst (pc := 4) (v := 1) B d_Book_is_4 (by decide) ?_
  refine mv_icmp_ne (pc := 5) (tgt := 28) B d_Book_is_5 rfl (fun h5 => ?_) (fun h5 => ?_)
  · skip
    refine mv_iconst (pc := 28) (v := 0) B d_Book_is_28 (by decide) ?_
    exact mv_iret (pc := 29) B hr rfl d_Book_is_29 (Nat.le_refl _) (Nat.le_refl _) ⟨_, rfl, rfl, by first | exact Or.inl rfl | exact Or.inr ⟨rfl, h5⟩⟩
  · skip
    refine mv_aload_n (pc := 8) B d_Book_is_8 rfl 0 rfl ?_
    refine mv_aload_n (pc := 9) B d_Book_is_9 rfl 1 rfl ?_
    refine mv_aload_n (pc := 10) B d_Book_is_10 rfl 0 rfl ?_
    refine mv_getI (pc := 11) (ci := 12) (C := R_Book) (T := F_Book) (N := 65) B 5 rfl rfl (by decide) i_Book (B.2.2.2.1 _ k_1848) rfl d_Book_is_11 ?_
    refine mv_aload_n (pc := 14) B d_Book_is_14 rfl 0 rfl ?_
    refine mv_getI (pc := 15) (ci := 12) (C := R_Book) (T := F_Book) (N := 65) B 6 rfl rfl (by decide) i_Book (B.2.2.2.1 _ k_1849) rfl d_Book_is_15 ?_
    refine mv_callVi (pc := 18) (n := 3) (ci := 12) (C := R_Book) B (mK_ok sk sv) hNs rfl rfl (c_Book_text_0_y l hi _ i9 hi9 _ _ len hQ.1.2.1 hQ.1.2.2.1 hQ.1.2.2.2.2.2 hQ.sp) rfl (ma_goodc kc_Book_text_0) (B.2.2.2.1 _ k_2167) (B.2.2.2.1 _ k_2169) (B.2.2.2.1 _ ks_89) (B.2.2.2.1 _ k_13) ⟨by decide +kernel, by decide +kernel, by decide +kernel⟩ rfl d_Book_is_18 rfl (Nat.le_of_ble_eq_true rfl) ⟨by decide, by decide⟩ ⟨by decide, by decide⟩ ⟨by decide, by decide⟩ (mv_noH hno _) (fun v18 σ18 h18 => ?_)
    obtain ⟨e18, z18⟩ := h18
    have e18 := e18.symm
    subst e18
    refine mv_if_eq (pc := 21) (tgt := 28) B d_Book_is_21 rfl (fun h21 => ?_) (fun h21 => ?_)
    · skip
      refine mv_iconst (pc := 28) (v := 0) B d_Book_is_28 (by decide) ?_
      exact mv_iret (pc := 29) B hr rfl d_Book_is_29 (Nat.le_refl _) (Nat.le_refl _) ⟨_, rfl, rfl, by first | exact Or.inl rfl | exact Or.inr ⟨rfl, h5⟩⟩
    · skip
      refine mv_iconst (pc := 24) (v := 1) B d_Book_is_24 (by decide) ?_
      refine mv_goto (pc := 25) (tgt := 29) B d_Book_is_25 rfl ?_
      exact mv_iret (pc := 29) B hr rfl d_Book_is_29 (Nat.le_refl _) (Nat.le_refl _) ⟨_, rfl, rfl, by first | exact Or.inl rfl | exact Or.inr ⟨rfl, h5⟩⟩
def y_Book_needWord : MethodName := ⟨"MachineLoomModel$Book", "needWord", "(Ljava/lang/String;)V"⟩
abbrev b_Book_needWord : ByteArray := prog_15_method_18_code
theorem kc_Book_needWord : Cond.code y_Book_needWord b_Book_needWord 2 (Option.none : Option Jvm.ClassFile.FieldType) ∈ ma := ma_of (tb_10 _ (List.mem_of_getElem? (i := 2) rfl)) rfl
theorem k_2163 : (Jvm.Cond.methodLink "MachineLoomModel$Book" (219 : Nat) ({ cls := "MachineLoomModel$Book", name := "is", desc := "(Ljava/lang/String;)Z" } : Jvm.MethodName)) ∈ ma := ma_of (tb_10 _ (List.mem_of_getElem? (i := 3) rfl)) rfl
theorem k_2165 : (Jvm.Cond.instanceMethod ({ cls := "MachineLoomModel$Book", name := "is", desc := "(Ljava/lang/String;)Z" } : Jvm.MethodName)) ∈ ma := ma_of (tb_10 _ (List.mem_of_getElem? (i := 5) rfl)) rfl
theorem ks_88 : Cond.selects "MachineLoomModel$Book" ⟨"MachineLoomModel$Book", "is", "(Ljava/lang/String;)Z"⟩ ⟨"MachineLoomModel$Book", "is", "(Ljava/lang/String;)Z"⟩ ∈ ma := ma_sel 88 rfl rfl
theorem d_Book_needWord_0 : decode b_Book_needWord 0 = .ok (.aload_n 0, 1) := by decide +kernel
theorem d_Book_needWord_1 : decode b_Book_needWord 1 = .ok (.aload_n 1, 1) := by decide +kernel
theorem d_Book_needWord_2 : decode b_Book_needWord 2 = .ok (.invokevirtual 219, 3) := by decide +kernel
theorem d_Book_needWord_5 : decode b_Book_needWord 5 = .ok (.ifCond .ne (12), 3) := by decide +kernel
theorem d_Book_needWord_8 : decode b_Book_needWord 8 = .ok (.aload_n 0, 1) := by decide +kernel
theorem d_Book_needWord_9 : decode b_Book_needWord 9 = .ok (.aload_n 0, 1) := by decide +kernel
theorem d_Book_needWord_10 : decode b_Book_needWord 10 = .ok (.getfield 174, 3) := by decide +kernel
theorem d_Book_needWord_13 : decode b_Book_needWord 13 = .ok (.invokevirtual 193, 3) := by decide +kernel
theorem d_Book_needWord_16 : decode b_Book_needWord 16 = .ok (.athrow, 1) := by decide +kernel
theorem d_Book_needWord_17 : decode b_Book_needWord 17 = .ok (.aload_n 0, 1) := by decide +kernel
theorem d_Book_needWord_18 : decode b_Book_needWord 18 = .ok (.invokevirtual 203, 3) := by decide +kernel
theorem d_Book_needWord_21 : decode b_Book_needWord 21 = .ok (.return_, 1) := by decide +kernel
set_option maxHeartbeats 4000000 in
set_option maxRecDepth 100000 in
theorem c_Book_needWord_x (l : Launch) {dA : FieldType → ClassId} {D : va_G} {al : Nat → Nat} {ext : mv_Sh} {sk sv : Nat → Nat} (hi : mv_inj (mg dA D al ext)) (σ : mv_H) (i9 : Nat) (hi9 : i9 < st_t.length) (len a1 a2 : Nat) (hQ : Tq 74 len σ σ a1 a2) : mv_C l y_Book_needWord (Cond.code y_Book_needWord b_Book_needWord 2 (Option.none : Option Jvm.ClassFile.FieldType) :: ma) ({ frames := 6, cells := 0, slots := 0, locals := 130 }) (mg dA D al ext) (mK sk sv) [.ref (al 74), .ref (sk i9)] σ (mv_Uv (fun σ1 => mv_i σ 74 4 = 1 ∧ (mv_i σ 74 8).toInt ≤ 60 ∧ ∃ b1 b2, Tq 74 len σ σ1 b1 b2 ∧ a2 ≤ b1) ("MachineLoomModel$Book$Wrong", al 107) (fun σ1 => TkB 74 σ σ1)) := by
  refine mv_C.ofV (cc := b_Book_needWord) (nL := 2) (ret := (Option.none : Option Jvm.ClassFile.FieldType)) (by decide +kernel) rfl hi (Nat.le_of_ble_eq_true rfl) ?_
  intro p e s m below meth c B hNs hr hnm hno
  refine mv_aload_n (pc := 0) B d_Book_needWord_0 rfl 0 rfl ?_
  refine mv_aload_n (pc := 1) B d_Book_needWord_1 rfl 1 rfl ?_
  refine mv_callVi (pc := 2) (n := 1) (ci := 12) (C := R_Book) B (mK_ok sk sv) hNs rfl rfl (c_Book_is_x l hi _ i9 hi9 len a1 a2 hQ) rfl (ma_goodc kc_Book_is) (B.2.2.2.1 _ k_2163) (B.2.2.2.1 _ k_2165) (B.2.2.2.1 _ ks_88) (B.2.2.2.1 _ k_13) ⟨by decide +kernel, by decide +kernel, by decide +kernel⟩ rfl d_Book_needWord_2 rfl (Nat.le_of_ble_eq_true rfl) ⟨by decide, by decide⟩ ⟨by decide, by decide⟩ ⟨by decide, by decide⟩ (mv_noH hno _) (fun v2 σ2 h2 => ?_)
  obtain ⟨e2, z2⟩ := h2
  have e2 := e2.symm
  subst e2
  refine mv_if_ne (pc := 5) (tgt := 17) B d_Book_needWord_5 rfl (fun h5 => ?_) (fun h5 => ?_)
  · skip
    refine mv_aload_n (pc := 17) B d_Book_needWord_17 rfl 0 rfl ?_
    refine mv_callVUv (pc := 18) (n := 0) (ci := 12) (C := R_Book) B (mK_ok sk sv) hNs rfl rfl (c_Book_pass_x l hi _ len a1 a2 hQ) rfl (ma_goodc kc_Book_pass) (B.2.2.2.1 _ k_2173) (B.2.2.2.1 _ k_2175) (B.2.2.2.1 _ ks_90) (B.2.2.2.1 _ k_13) ⟨by decide +kernel, by decide +kernel, by decide +kernel⟩ rfl d_Book_needWord_18 rfl (Nat.le_of_ble_eq_true rfl) ⟨by decide, by decide⟩ ⟨by decide, by decide⟩ ⟨by decide, by decide⟩ (mv_noH hno _) (fun τ9 g9 => Or.inr ⟨rfl, g9⟩) (fun σ18 h18 => ?_)
    exact mv_vret (pc := 21) B hr d_Book_needWord_21 (Nat.le_refl _) (Nat.le_refl _) (Or.inl ⟨rfl, (z2.resolve_left h5).2, h18⟩)
  · skip
    refine mv_aload_n (pc := 8) B d_Book_needWord_8 rfl 0 rfl ?_
    refine mv_aload_n (pc := 9) B d_Book_needWord_9 rfl 0 rfl ?_
    refine mv_getI (pc := 10) (ci := 12) (C := R_Book) (T := F_Book) (N := 65) B 5 rfl rfl (by decide) i_Book (B.2.2.2.1 _ k_1848) rfl d_Book_needWord_10 ?_
    refine mv_callVr (pc := 13) (n := 1) (ci := 12) (C := R_Book) B (mK_ok sk sv) hNs rfl rfl (c_Book_wrongAt_x l hi _ _ hQ.1.2.1) rfl (ma_goodc kc_Book_wrongAt) (B.2.2.2.1 _ k_2154) (B.2.2.2.1 _ k_2156) (B.2.2.2.1 _ ks_86) (B.2.2.2.1 _ k_13) ⟨by decide +kernel, by decide +kernel, by decide +kernel⟩ rfl d_Book_needWord_13 rfl (Nat.le_of_ble_eq_true rfl) ⟨by decide, by decide⟩ ⟨by decide, by decide⟩ ⟨by decide, by decide⟩ (mv_noH hno _) (fun σ13 h13 => ?_)
    obtain ⟨g13, -⟩ := h13
    exact mv_athrowO (pc := 16) (o := 107) B rfl rfl (mv_noH hno _) d_Book_needWord_16 (Nat.le_refl _) (Nat.le_refl _) (Or.inr ⟨rfl, g13⟩)
set_option maxHeartbeats 4000000 in
set_option maxRecDepth 100000 in
theorem c_Book_needWord_y (l : Launch) {dA : FieldType → ClassId} {D : va_G} {al : Nat → Nat} {ext : mv_Sh} {sk sv : Nat → Nat} (hi : mv_inj (mg dA D al ext)) (σ : mv_H) (i9 : Nat) (hi9 : i9 < st_t.length) (len a1 a2 : Nat) (hQ : Tq 108 len σ σ a1 a2) : mv_C l y_Book_needWord (Cond.code y_Book_needWord b_Book_needWord 2 (Option.none : Option Jvm.ClassFile.FieldType) :: ma) ({ frames := 6, cells := 0, slots := 0, locals := 130 }) (mg dA D al ext) (mK sk sv) [.ref (al 108), .ref (sk i9)] σ (mv_Uv (fun σ1 => mv_i σ 108 4 = 1 ∧ (mv_i σ 108 8).toInt ≤ 60 ∧ ∃ b1 b2, Tq 108 len σ σ1 b1 b2 ∧ a2 ≤ b1) ("MachineLoomModel$Book$Wrong", al 141) (fun σ1 => TkB 108 σ σ1)) := by
  refine mv_C.ofV (cc := b_Book_needWord) (nL := 2) (ret := (Option.none : Option Jvm.ClassFile.FieldType)) (by decide +kernel) rfl hi (Nat.le_of_ble_eq_true rfl) ?_
  intro p e s m below meth c B hNs hr hnm hno
  refine mv_aload_n (pc := 0) B d_Book_needWord_0 rfl 0 rfl ?_
  refine mv_aload_n (pc := 1) B d_Book_needWord_1 rfl 1 rfl ?_
  refine mv_callVi (pc := 2) (n := 1) (ci := 12) (C := R_Book) B (mK_ok sk sv) hNs rfl rfl (c_Book_is_y l hi _ i9 hi9 len a1 a2 hQ) rfl (ma_goodc kc_Book_is) (B.2.2.2.1 _ k_2163) (B.2.2.2.1 _ k_2165) (B.2.2.2.1 _ ks_88) (B.2.2.2.1 _ k_13) ⟨by decide +kernel, by decide +kernel, by decide +kernel⟩ rfl d_Book_needWord_2 rfl (Nat.le_of_ble_eq_true rfl) ⟨by decide, by decide⟩ ⟨by decide, by decide⟩ ⟨by decide, by decide⟩ (mv_noH hno _) (fun v2 σ2 h2 => ?_)
  obtain ⟨e2, z2⟩ := h2
  have e2 := e2.symm
  subst e2
  refine mv_if_ne (pc := 5) (tgt := 17) B d_Book_needWord_5 rfl (fun h5 => ?_) (fun h5 => ?_)
  · skip
    refine mv_aload_n (pc := 17) B d_Book_needWord_17 rfl 0 rfl ?_
    refine mv_callVUv (pc := 18) (n := 0) (ci := 12) (C := R_Book) B (mK_ok sk sv) hNs rfl rfl (c_Book_pass_y l hi _ len a1 a2 hQ) rfl (ma_goodc kc_Book_pass) (B.2.2.2.1 _ k_2173) (B.2.2.2.1 _ k_2175) (B.2.2.2.1 _ ks_90) (B.2.2.2.1 _ k_13) ⟨by decide +kernel, by decide +kernel, by decide +kernel⟩ rfl d_Book_needWord_18 rfl (Nat.le_of_ble_eq_true rfl) ⟨by decide, by decide⟩ ⟨by decide, by decide⟩ ⟨by decide, by decide⟩ (mv_noH hno _) (fun τ9 g9 => Or.inr ⟨rfl, g9⟩) (fun σ18 h18 => ?_)
    exact mv_vret (pc := 21) B hr d_Book_needWord_21 (Nat.le_refl _) (Nat.le_refl _) (Or.inl ⟨rfl, (z2.resolve_left h5).2, h18⟩)
  · skip
    refine mv_aload_n (pc := 8) B d_Book_needWord_8 rfl 0 rfl ?_
    refine mv_aload_n (pc := 9) B d_Book_needWord_9 rfl 0 rfl ?_
    refine mv_getI (pc := 10) (ci := 12) (C := R_Book) (T := F_Book) (N := 65) B 5 rfl rfl (by decide) i_Book (B.2.2.2.1 _ k_1848) rfl d_Book_needWord_10 ?_
    refine mv_callVr (pc := 13) (n := 1) (ci := 12) (C := R_Book) B (mK_ok sk sv) hNs rfl rfl (c_Book_wrongAt_y l hi _ _ hQ.1.2.1) rfl (ma_goodc kc_Book_wrongAt) (B.2.2.2.1 _ k_2154) (B.2.2.2.1 _ k_2156) (B.2.2.2.1 _ ks_86) (B.2.2.2.1 _ k_13) ⟨by decide +kernel, by decide +kernel, by decide +kernel⟩ rfl d_Book_needWord_13 rfl (Nat.le_of_ble_eq_true rfl) ⟨by decide, by decide⟩ ⟨by decide, by decide⟩ ⟨by decide, by decide⟩ (mv_noH hno _) (fun σ13 h13 => ?_)
    obtain ⟨g13, -⟩ := h13
    exact mv_athrowO (pc := 16) (o := 141) B rfl rfl (mv_noH hno _) d_Book_needWord_16 (Nat.le_refl _) (Nat.le_refl _) (Or.inr ⟨rfl, g13⟩)
def y_Book_reserved : MethodName := ⟨"MachineLoomModel$Book", "reserved", "()Z"⟩
abbrev b_Book_reserved : ByteArray := prog_15_method_19_code
theorem kc_Book_reserved : Cond.code y_Book_reserved b_Book_reserved 4 (Option.some Jvm.ClassFile.FieldType.boolean) ∈ ma := ma_of (tb_10 _ (List.mem_of_getElem? (i := 41) rfl)) rfl
theorem d_Book_reserved_0 : decode b_Book_reserved 0 = .ok (.aload_n 0, 1) := by decide +kernel
theorem d_Book_reserved_1 : decode b_Book_reserved 1 = .ok (.getfield 151, 3) := by decide +kernel
theorem d_Book_reserved_4 : decode b_Book_reserved 4 = .ok (.iconst 1, 1) := by decide +kernel
theorem d_Book_reserved_5 : decode b_Book_reserved 5 = .ok (.if_icmp .ne (16), 3) := by decide +kernel
theorem d_Book_reserved_8 : decode b_Book_reserved 8 = .ok (.aload_n 0, 1) := by decide +kernel
theorem d_Book_reserved_9 : decode b_Book_reserved 9 = .ok (.getfield 190, 3) := by decide +kernel
theorem d_Book_reserved_12 : decode b_Book_reserved 12 = .ok (.aload_n 0, 1) := by decide +kernel
theorem d_Book_reserved_13 : decode b_Book_reserved 13 = .ok (.getfield 174, 3) := by decide +kernel
theorem d_Book_reserved_16 : decode b_Book_reserved 16 = .ok (.isub, 1) := by decide +kernel
theorem d_Book_reserved_17 : decode b_Book_reserved 17 = .ok (.iconst 5, 1) := by decide +kernel
theorem d_Book_reserved_18 : decode b_Book_reserved 18 = .ok (.if_icmp .le (5), 3) := by decide +kernel
theorem d_Book_reserved_21 : decode b_Book_reserved 21 = .ok (.iconst 0, 1) := by decide +kernel
theorem d_Book_reserved_22 : decode b_Book_reserved 22 = .ok (.ireturn, 1) := by decide +kernel
theorem d_Book_reserved_23 : decode b_Book_reserved 23 = .ok (.iconst 0, 1) := by decide +kernel
theorem d_Book_reserved_24 : decode b_Book_reserved 24 = .ok (.istore_n 1, 1) := by decide +kernel
theorem d_Book_reserved_25 : decode b_Book_reserved 25 = .ok (.iload_n 1, 1) := by decide +kernel
theorem d_Book_reserved_26 : decode b_Book_reserved 26 = .ok (.aload_n 0, 1) := by decide +kernel
theorem d_Book_reserved_27 : decode b_Book_reserved 27 = .ok (.getfield 190, 3) := by decide +kernel
theorem d_Book_reserved_30 : decode b_Book_reserved 30 = .ok (.iadd, 1) := by decide +kernel
theorem d_Book_reserved_31 : decode b_Book_reserved 31 = .ok (.aload_n 0, 1) := by decide +kernel
theorem d_Book_reserved_32 : decode b_Book_reserved 32 = .ok (.getfield 174, 3) := by decide +kernel
theorem d_Book_reserved_35 : decode b_Book_reserved 35 = .ok (.isub, 1) := by decide +kernel
theorem d_Book_reserved_36 : decode b_Book_reserved 36 = .ok (.iconst 1, 1) := by decide +kernel
theorem d_Book_reserved_37 : decode b_Book_reserved 37 = .ok (.iadd, 1) := by decide +kernel
theorem d_Book_reserved_38 : decode b_Book_reserved 38 = .ok (.ldc 223, 2) := by decide +kernel
theorem d_Book_reserved_40 : decode b_Book_reserved 40 = .ok (.invokevirtual 210, 3) := by decide +kernel
theorem d_Book_reserved_43 : decode b_Book_reserved 43 = .ok (.if_icmp .ge (98), 3) := by decide +kernel
theorem d_Book_reserved_46 : decode b_Book_reserved 46 = .ok (.ldc 223, 2) := by decide +kernel
theorem d_Book_reserved_48 : decode b_Book_reserved 48 = .ok (.iload_n 1, 1) := by decide +kernel
theorem d_Book_reserved_49 : decode b_Book_reserved 49 = .ok (.invokevirtual 215, 3) := by decide +kernel
theorem d_Book_reserved_52 : decode b_Book_reserved 52 = .ok (.bipush 32, 2) := by decide +kernel
theorem d_Book_reserved_54 : decode b_Book_reserved 54 = .ok (.if_icmp .ne (81), 3) := by decide +kernel
theorem d_Book_reserved_57 : decode b_Book_reserved 57 = .ok (.ldc 223, 2) := by decide +kernel
theorem d_Book_reserved_59 : decode b_Book_reserved 59 = .ok (.iload_n 1, 1) := by decide +kernel
theorem d_Book_reserved_60 : decode b_Book_reserved 60 = .ok (.iconst 1, 1) := by decide +kernel
theorem d_Book_reserved_61 : decode b_Book_reserved 61 = .ok (.iadd, 1) := by decide +kernel
theorem d_Book_reserved_62 : decode b_Book_reserved 62 = .ok (.aload_n 0, 1) := by decide +kernel
theorem d_Book_reserved_63 : decode b_Book_reserved 63 = .ok (.getfield 190, 3) := by decide +kernel
theorem d_Book_reserved_66 : decode b_Book_reserved 66 = .ok (.iadd, 1) := by decide +kernel
theorem d_Book_reserved_67 : decode b_Book_reserved 67 = .ok (.aload_n 0, 1) := by decide +kernel
theorem d_Book_reserved_68 : decode b_Book_reserved 68 = .ok (.getfield 174, 3) := by decide +kernel
theorem d_Book_reserved_71 : decode b_Book_reserved 71 = .ok (.isub, 1) := by decide +kernel
theorem d_Book_reserved_72 : decode b_Book_reserved 72 = .ok (.invokevirtual 215, 3) := by decide +kernel
theorem d_Book_reserved_75 : decode b_Book_reserved 75 = .ok (.bipush 32, 2) := by decide +kernel
theorem d_Book_reserved_77 : decode b_Book_reserved 77 = .ok (.if_icmp .eq (6), 3) := by decide +kernel
theorem d_Book_reserved_80 : decode b_Book_reserved 80 = .ok (.goto (55), 3) := by decide +kernel
theorem d_Book_reserved_83 : decode b_Book_reserved 83 = .ok (.iconst 1, 1) := by decide +kernel
theorem d_Book_reserved_84 : decode b_Book_reserved 84 = .ok (.istore_n 2, 1) := by decide +kernel
theorem d_Book_reserved_85 : decode b_Book_reserved 85 = .ok (.aload_n 0, 1) := by decide +kernel
theorem d_Book_reserved_86 : decode b_Book_reserved 86 = .ok (.getfield 174, 3) := by decide +kernel
theorem d_Book_reserved_89 : decode b_Book_reserved 89 = .ok (.istore_n 3, 1) := by decide +kernel
theorem d_Book_reserved_90 : decode b_Book_reserved 90 = .ok (.iload_n 3, 1) := by decide +kernel
theorem d_Book_reserved_91 : decode b_Book_reserved 91 = .ok (.aload_n 0, 1) := by decide +kernel
theorem d_Book_reserved_92 : decode b_Book_reserved 92 = .ok (.getfield 190, 3) := by decide +kernel
theorem d_Book_reserved_95 : decode b_Book_reserved 95 = .ok (.if_icmp .ge (34), 3) := by decide +kernel
theorem d_Book_reserved_98 : decode b_Book_reserved 98 = .ok (.aload_n 0, 1) := by decide +kernel
theorem d_Book_reserved_99 : decode b_Book_reserved 99 = .ok (.iload_n 3, 1) := by decide +kernel
theorem d_Book_reserved_100 : decode b_Book_reserved 100 = .ok (.invokevirtual 145, 3) := by decide +kernel
theorem d_Book_reserved_103 : decode b_Book_reserved 103 = .ok (.ldc 223, 2) := by decide +kernel
theorem d_Book_reserved_105 : decode b_Book_reserved 105 = .ok (.iload_n 1, 1) := by decide +kernel
theorem d_Book_reserved_106 : decode b_Book_reserved 106 = .ok (.iconst 1, 1) := by decide +kernel
theorem d_Book_reserved_107 : decode b_Book_reserved 107 = .ok (.iadd, 1) := by decide +kernel
theorem d_Book_reserved_108 : decode b_Book_reserved 108 = .ok (.iload_n 3, 1) := by decide +kernel
theorem d_Book_reserved_109 : decode b_Book_reserved 109 = .ok (.iadd, 1) := by decide +kernel
theorem d_Book_reserved_110 : decode b_Book_reserved 110 = .ok (.aload_n 0, 1) := by decide +kernel
theorem d_Book_reserved_111 : decode b_Book_reserved 111 = .ok (.getfield 174, 3) := by decide +kernel
theorem d_Book_reserved_114 : decode b_Book_reserved 114 = .ok (.isub, 1) := by decide +kernel
theorem d_Book_reserved_115 : decode b_Book_reserved 115 = .ok (.invokevirtual 215, 3) := by decide +kernel
theorem d_Book_reserved_118 : decode b_Book_reserved 118 = .ok (.if_icmp .eq (5), 3) := by decide +kernel
theorem d_Book_reserved_121 : decode b_Book_reserved 121 = .ok (.iconst 0, 1) := by decide +kernel
theorem d_Book_reserved_122 : decode b_Book_reserved 122 = .ok (.istore_n 2, 1) := by decide +kernel
theorem d_Book_reserved_123 : decode b_Book_reserved 123 = .ok (.iinc 3 (1), 3) := by decide +kernel
theorem d_Book_reserved_126 : decode b_Book_reserved 126 = .ok (.goto (-36), 3) := by decide +kernel
theorem d_Book_reserved_129 : decode b_Book_reserved 129 = .ok (.iload_n 2, 1) := by decide +kernel
theorem d_Book_reserved_130 : decode b_Book_reserved 130 = .ok (.ifCond .eq (5), 3) := by decide +kernel
theorem d_Book_reserved_133 : decode b_Book_reserved 133 = .ok (.iconst 1, 1) := by decide +kernel
theorem d_Book_reserved_134 : decode b_Book_reserved 134 = .ok (.ireturn, 1) := by decide +kernel
theorem d_Book_reserved_135 : decode b_Book_reserved 135 = .ok (.iinc 1 (1), 3) := by decide +kernel
theorem d_Book_reserved_138 : decode b_Book_reserved 138 = .ok (.goto (-113), 3) := by decide +kernel
theorem d_Book_reserved_141 : decode b_Book_reserved 141 = .ok (.iconst 0, 1) := by decide +kernel
theorem d_Book_reserved_142 : decode b_Book_reserved 142 = .ok (.ireturn, 1) := by decide +kernel
set_option maxHeartbeats 4000000 in
set_option maxRecDepth 100000 in
theorem c_Book_reserved_x (l : Launch) {dA : FieldType → ClassId} {D : va_G} {al : Nat → Nat} {ext : mv_Sh} {sk sv : Nat → Nat} (hi : mv_inj (mg dA D al ext)) (σ : mv_H) (len a1 a2 : Nat) (hQ : Tq 74 len σ σ a1 a2) : mv_C l y_Book_reserved (Cond.code y_Book_reserved b_Book_reserved 4 (Option.some Jvm.ClassFile.FieldType.boolean) :: ma) ({ frames := 4, cells := 0, slots := 0, locals := 85 }) (mg dA D al ext) (mK sk sv) [.ref (al 74)] σ (mv_Ri (fun v σ1 => σ1 = σ ∧ (v = 0 ∨ v = 1))) := by
  refine mv_C.ofV (cc := b_Book_reserved) (nL := 4) (ret := (Option.some Jvm.ClassFile.FieldType.boolean)) (by decide +kernel) rfl hi (Nat.le_of_ble_eq_true rfl) ?_
  intro p e s m below meth c B hNs hr hnm hno
  have hR := hQ.1.2.1
  have hz := hQ.1.2.2.1
  have hl := hQ.1.2.2.2.2.2
  have hs5 := hQ.2.1
  have hs6 := hQ.stop
  have hs7 := hQ.2.2.1
  have hs8 := hQ.1.2.2.2.2.1
  have hll := st_l9 141 (by decide)
  have lp : ∀ (nn : Nat) (i9 : Int32) (q0 : 0 ≤ i9.toInt) (q1 : i9.toInt ≤ 1000), (20000 - i9.toInt).toNat < nn → mv_V p l e ({ frames := 4, cells := 0, slots := 0, locals := 85 }) s m ([.ref (al 74)] : List Value).toArray below meth c (mg dA D al ext) 4 0 0 (mv_Q (mg dA D al ext) below s 0 0 (mv_Ri (fun v σ1 => σ1 = σ ∧ (v = 0 ∨ v = 1)))) σ 25 [(1, .int i9), (0, .ref (al 74))] [] := by
    intro nn
    induction nn with
    | zero => intro i9 q0 q1 hm; exact absurd hm (Nat.not_lt_zero _)
    | succ nn ih =>
      intro i9 q0 q1 hm
      have ihO := ih
      have lq : ∀ (nn : Nat) (k9 : Int32) (s9 : Int32) (q9 : 0 ≤ k9.toInt) (q8 : a1 ≤ k9.toInt) (hW9 : i9.toInt + a2 - a1 + 1 < (st_g 141).2.2.2.length), (20000 - k9.toInt).toNat < nn → mv_V p l e ({ frames := 4, cells := 0, slots := 0, locals := 85 }) s m ([.ref (al 74)] : List Value).toArray below meth c (mg dA D al ext) 4 0 0 (mv_Q (mg dA D al ext) below s 0 0 (mv_Ri (fun v σ1 => σ1 = σ ∧ (v = 0 ∨ v = 1)))) σ 90 [(3, .int k9), (2, .int s9), (1, .int i9), (0, .ref (al 74))] [] := by
        intro nn
        induction nn with
        | zero => intro k9 s9 q9 q8 hW9 hm; exact absurd hm (Nat.not_lt_zero _)
        | succ nn ih =>
          intro k9 s9 q9 q8 hW9 hm
          refine mv_iload_n (pc := 90) B d_Book_reserved_90 rfl 0 rfl ?_
          refine mv_aload_n (pc := 91) B d_Book_reserved_91 rfl 3 rfl ?_
          refine mv_getI (pc := 92) (ci := 12) (C := R_Book) (T := F_Book) (N := 65) B 6 rfl rfl (by decide) i_Book (B.2.2.2.1 _ k_1849) rfl d_Book_reserved_92 ?_
          refine mv_icmp_ge (pc := 95) (tgt := 129) B d_Book_reserved_95 rfl (fun h95 => ?_) (fun h95 => ?_)
          · skip
            refine mv_iload_n (pc := 129) B d_Book_reserved_129 rfl 1 rfl ?_
            refine mv_if_eq (pc := 130) (tgt := 135) B d_Book_reserved_130 rfl (fun h130 => ?_) (fun h130 => ?_)
            · skip
              have w2 : (i9 + 1).toInt = i9.toInt + 1 := i32_inc (by omega)
              refine mv_iinc (pc := 135) (j := 2) (v := 1) B d_Book_reserved_135 rfl (by decide) (by decide) rfl ?_
              refine mv_goto (pc := 138) (tgt := 25) B d_Book_reserved_138 rfl ?_
              refine mv_lpick [0, 3] rfl ?_
              exact ihO _ (by omega) (by omega) (by omega)
            · skip
              refine mv_iconst (pc := 133) (v := 1) B d_Book_reserved_133 (by decide) ?_
              exact mv_iret (pc := 134) B hr rfl d_Book_reserved_134 (Nat.le_refl _) (Nat.le_refl _) ⟨_, rfl, rfl, by first | exact Or.inl rfl | exact Or.inr rfl⟩
          · skip
            rw [Int32.le_iff_toInt_le] at h95
            have w3 : (k9 + 1).toInt = k9.toInt + 1 := i32_inc (by omega)
            refine mv_aload_n (pc := 98) B d_Book_reserved_98 rfl 3 rfl ?_
            refine mv_iload_n (pc := 99) B d_Book_reserved_99 rfl 0 rfl ?_
            refine mv_callVi (pc := 100) (n := 1) (ci := 12) (C := R_Book) B (mK_ok sk sv) hNs rfl rfl (c_Book_look_x l hi _ _ len hR hz hl q9) rfl (ma_goodc kc_Book_look) (B.2.2.2.1 _ k_2122) (B.2.2.2.1 _ k_2124) (B.2.2.2.1 _ ks_82) (B.2.2.2.1 _ k_13) ⟨by decide +kernel, by decide +kernel, by decide +kernel⟩ rfl d_Book_reserved_100 rfl (Nat.le_of_ble_eq_true rfl) ⟨by decide, by decide⟩ ⟨by decide, by decide⟩ ⟨by decide, by decide⟩ (mv_noH hno _) (fun v100 σ100 h100 => ?_)
            obtain ⟨e100, w100, z100⟩ := h100
            have e100 := e100.symm
            subst e100
            refine mv_ldcS (pc := 103) B (hNs.2.1 141 (by decide)).1 d_Book_reserved_103 ?_
            refine mv_iload_n (pc := 105) B d_Book_reserved_105 rfl 2 rfl ?_
            refine mv_iconst (pc := 106) (v := 1) B d_Book_reserved_106 (by decide) ?_
            refine mv_iadd (pc := 107) B d_Book_reserved_107 ?_
            refine mv_topi (fun y107 ey107 => ?_)
            have fy107 := i32_addE ey107 (by (try simp only [Int32.reduceToInt]); omega) (by (try simp only [Int32.reduceToInt]); omega)
            try simp only [Int32.reduceToInt] at fy107
            refine mv_iload_n (pc := 108) B d_Book_reserved_108 rfl 0 rfl ?_
            refine mv_iadd (pc := 109) B d_Book_reserved_109 ?_
            refine mv_topi (fun y109 ey109 => ?_)
            have fy109 := i32_addE ey109 (by (try simp only [Int32.reduceToInt]); omega) (by (try simp only [Int32.reduceToInt]); omega)
            try simp only [Int32.reduceToInt] at fy109
            refine mv_aload_n (pc := 110) B d_Book_reserved_110 rfl 3 rfl ?_
            refine mv_getI (pc := 111) (ci := 12) (C := R_Book) (T := F_Book) (N := 65) B 5 rfl rfl (by decide) i_Book (B.2.2.2.1 _ k_1848) rfl d_Book_reserved_111 ?_
            refine mv_isub (pc := 114) B d_Book_reserved_114 ?_
            refine mv_topi (fun y114 ey114 => ?_)
            have fy114 := i32_subE ey114 (by (try simp only [Int32.reduceToInt]); omega) (by (try simp only [Int32.reduceToInt]); omega)
            try simp only [Int32.reduceToInt] at fy114
            refine mv_callVOi (pc := 115) (n := 1) B (mK_ok sk sv) hNs (hNs.2.1 141 (by decide)).2.1 (c_String_charAt l hi _ 141 (by decide) _ (show 0 ≤ (y114 : Int32).toInt by omega) (show (y114 : Int32).toInt < _ by omega)) rfl (ma_goodc kc_String_charAt) (B.2.2.2.1 _ k_2172) (B.2.2.2.1 _ k_556) (B.2.2.2.1 _ k_557) (B.2.2.2.1 _ k_21) ⟨by decide +kernel, by decide +kernel, by decide +kernel⟩ rfl d_Book_reserved_115 rfl (Nat.le_of_ble_eq_true rfl) ⟨by decide, by decide⟩ ⟨by decide, by decide⟩ ⟨by decide, by decide⟩ (mv_noH hno _) (fun v115 σ115 h115 => ?_)
            obtain ⟨e115, z115⟩ := h115
            have e115 := e115.symm
            subst e115
            refine mv_icmp_eq (pc := 118) (tgt := 123) B d_Book_reserved_118 rfl (fun h118 => ?_) (fun h118 => ?_)
            · skip
              refine mv_iinc (pc := 123) (j := 0) (v := 1) B d_Book_reserved_123 rfl (by decide) (by decide) rfl ?_
              refine mv_goto (pc := 126) (tgt := 90) B d_Book_reserved_126 rfl ?_
              refine mv_lpick [0, 1, 2, 3] rfl ?_
              exact ih _ _ (by omega) (by omega) hW9 (by omega)
            · skip
              refine mv_iconst (pc := 121) (v := 0) B d_Book_reserved_121 (by decide) ?_
              refine mv_istore_n (pc := 122) B d_Book_reserved_122 rfl (by decide) rfl ?_
              refine mv_iinc (pc := 123) (j := 1) (v := 1) B d_Book_reserved_123 rfl (by decide) (by decide) rfl ?_
              refine mv_goto (pc := 126) (tgt := 90) B d_Book_reserved_126 rfl ?_
              refine mv_lpick [0, 1, 2, 3] rfl ?_
              exact ih _ _ (by omega) (by omega) hW9 (by omega)
      refine mv_iload_n (pc := 25) B d_Book_reserved_25 rfl 0 rfl ?_
      refine mv_aload_n (pc := 26) B d_Book_reserved_26 rfl 1 rfl ?_
      refine mv_getI (pc := 27) (ci := 12) (C := R_Book) (T := F_Book) (N := 65) B 6 rfl rfl (by decide) i_Book (B.2.2.2.1 _ k_1849) rfl d_Book_reserved_27 ?_
      refine mv_iadd (pc := 30) B d_Book_reserved_30 ?_
      refine mv_topi (fun y30 ey30 => ?_)
      have fy30 := i32_addE ey30 (by (try simp only [Int32.reduceToInt]); omega) (by (try simp only [Int32.reduceToInt]); omega)
      try simp only [Int32.reduceToInt] at fy30
      refine mv_aload_n (pc := 31) B d_Book_reserved_31 rfl 1 rfl ?_
      refine mv_getI (pc := 32) (ci := 12) (C := R_Book) (T := F_Book) (N := 65) B 5 rfl rfl (by decide) i_Book (B.2.2.2.1 _ k_1848) rfl d_Book_reserved_32 ?_
      refine mv_isub (pc := 35) B d_Book_reserved_35 ?_
      refine mv_topi (fun y35 ey35 => ?_)
      have fy35 := i32_subE ey35 (by (try simp only [Int32.reduceToInt]); omega) (by (try simp only [Int32.reduceToInt]); omega)
      try simp only [Int32.reduceToInt] at fy35
      refine mv_iconst (pc := 36) (v := 1) B d_Book_reserved_36 (by decide) ?_
      refine mv_iadd (pc := 37) B d_Book_reserved_37 ?_
      refine mv_topi (fun y37 ey37 => ?_)
      have fy37 := i32_addE ey37 (by (try simp only [Int32.reduceToInt]); omega) (by (try simp only [Int32.reduceToInt]); omega)
      try simp only [Int32.reduceToInt] at fy37
      refine mv_ldcS (pc := 38) B (hNs.2.1 141 (by decide)).1 d_Book_reserved_38 ?_
      refine mv_callVOi (pc := 40) (n := 0) B (mK_ok sk sv) hNs (hNs.2.1 141 (by decide)).2.1 (c_String_length l hi _ 141 (by decide)) rfl (ma_goodc kc_String_length) (B.2.2.2.1 _ k_2171) (B.2.2.2.1 _ k_546) (B.2.2.2.1 _ k_547) (B.2.2.2.1 _ k_21) ⟨by decide +kernel, by decide +kernel, by decide +kernel⟩ rfl d_Book_reserved_40 rfl (Nat.le_of_ble_eq_true rfl) ⟨by decide, by decide⟩ ⟨by decide, by decide⟩ ⟨by decide, by decide⟩ (mv_noH hno _) (fun v40 σ40 h40 => ?_)
      obtain ⟨e40, z40⟩ := h40
      have e40 := e40.symm
      subst e40
      refine mv_icmp_ge (pc := 43) (tgt := 141) B d_Book_reserved_43 rfl (fun h43 => ?_) (fun h43 => ?_)
      · skip
        refine mv_iconst (pc := 141) (v := 0) B d_Book_reserved_141 (by decide) ?_
        exact mv_iret (pc := 142) B hr rfl d_Book_reserved_142 (Nat.le_refl _) (Nat.le_refl _) ⟨_, rfl, rfl, by first | exact Or.inl rfl | exact Or.inr rfl⟩
      · skip
        rw [Int32.le_iff_toInt_le] at h43
        have hW9 : i9.toInt + a2 - a1 + 1 < (st_g 141).2.2.2.length := by omega
        refine mv_ldcS (pc := 46) B (hNs.2.1 141 (by decide)).1 d_Book_reserved_46 ?_
        refine mv_iload_n (pc := 48) B d_Book_reserved_48 rfl 0 rfl ?_
        refine mv_callVOi (pc := 49) (n := 1) B (mK_ok sk sv) hNs (hNs.2.1 141 (by decide)).2.1 (c_String_charAt l hi _ 141 (by decide) _ (show 0 ≤ (i9 : Int32).toInt by omega) (show (i9 : Int32).toInt < _ by omega)) rfl (ma_goodc kc_String_charAt) (B.2.2.2.1 _ k_2172) (B.2.2.2.1 _ k_556) (B.2.2.2.1 _ k_557) (B.2.2.2.1 _ k_21) ⟨by decide +kernel, by decide +kernel, by decide +kernel⟩ rfl d_Book_reserved_49 rfl (Nat.le_of_ble_eq_true rfl) ⟨by decide, by decide⟩ ⟨by decide, by decide⟩ ⟨by decide, by decide⟩ (mv_noH hno _) (fun v49 σ49 h49 => ?_)
        obtain ⟨e49, z49⟩ := h49
        have e49 := e49.symm
        subst e49
        refine mv_bipush (pc := 52) (v := 32) B d_Book_reserved_52 (by decide) ?_
        refine mv_icmp_ne (pc := 54) (tgt := 135) B d_Book_reserved_54 rfl (fun h54 => ?_) (fun h54 => ?_)
        · skip
          have w2 : (i9 + 1).toInt = i9.toInt + 1 := i32_inc (by omega)
          refine mv_iinc (pc := 135) (j := 0) (v := 1) B d_Book_reserved_135 rfl (by decide) (by decide) rfl ?_
          refine mv_goto (pc := 138) (tgt := 25) B d_Book_reserved_138 rfl ?_
          refine mv_lpick [0, 1] rfl ?_
          exact ih _ (by omega) (by omega) (by omega)
        · skip
          refine mv_ldcS (pc := 57) B (hNs.2.1 141 (by decide)).1 d_Book_reserved_57 ?_
          refine mv_iload_n (pc := 59) B d_Book_reserved_59 rfl 0 rfl ?_
          refine mv_iconst (pc := 60) (v := 1) B d_Book_reserved_60 (by decide) ?_
          refine mv_iadd (pc := 61) B d_Book_reserved_61 ?_
          refine mv_topi (fun y61 ey61 => ?_)
          have fy61 := i32_addE ey61 (by (try simp only [Int32.reduceToInt]); omega) (by (try simp only [Int32.reduceToInt]); omega)
          try simp only [Int32.reduceToInt] at fy61
          refine mv_aload_n (pc := 62) B d_Book_reserved_62 rfl 1 rfl ?_
          refine mv_getI (pc := 63) (ci := 12) (C := R_Book) (T := F_Book) (N := 65) B 6 rfl rfl (by decide) i_Book (B.2.2.2.1 _ k_1849) rfl d_Book_reserved_63 ?_
          refine mv_iadd (pc := 66) B d_Book_reserved_66 ?_
          refine mv_topi (fun y66 ey66 => ?_)
          have fy66 := i32_addE ey66 (by (try simp only [Int32.reduceToInt]); omega) (by (try simp only [Int32.reduceToInt]); omega)
          try simp only [Int32.reduceToInt] at fy66
          refine mv_aload_n (pc := 67) B d_Book_reserved_67 rfl 1 rfl ?_
          refine mv_getI (pc := 68) (ci := 12) (C := R_Book) (T := F_Book) (N := 65) B 5 rfl rfl (by decide) i_Book (B.2.2.2.1 _ k_1848) rfl d_Book_reserved_68 ?_
          refine mv_isub (pc := 71) B d_Book_reserved_71 ?_
          refine mv_topi (fun y71 ey71 => ?_)
          have fy71 := i32_subE ey71 (by (try simp only [Int32.reduceToInt]); omega) (by (try simp only [Int32.reduceToInt]); omega)
          try simp only [Int32.reduceToInt] at fy71
          refine mv_callVOi (pc := 72) (n := 1) B (mK_ok sk sv) hNs (hNs.2.1 141 (by decide)).2.1 (c_String_charAt l hi _ 141 (by decide) _ (show 0 ≤ (y71 : Int32).toInt by omega) (show (y71 : Int32).toInt < _ by omega)) rfl (ma_goodc kc_String_charAt) (B.2.2.2.1 _ k_2172) (B.2.2.2.1 _ k_556) (B.2.2.2.1 _ k_557) (B.2.2.2.1 _ k_21) ⟨by decide +kernel, by decide +kernel, by decide +kernel⟩ rfl d_Book_reserved_72 rfl (Nat.le_of_ble_eq_true rfl) ⟨by decide, by decide⟩ ⟨by decide, by decide⟩ ⟨by decide, by decide⟩ (mv_noH hno _) (fun v72 σ72 h72 => ?_)
          obtain ⟨e72, z72⟩ := h72
          have e72 := e72.symm
          subst e72
          refine mv_bipush (pc := 75) (v := 32) B d_Book_reserved_75 (by decide) ?_
          refine mv_icmp_eq (pc := 77) (tgt := 83) B d_Book_reserved_77 rfl (fun h77 => ?_) (fun h77 => ?_)
          · skip
            refine mv_iconst (pc := 83) (v := 1) B d_Book_reserved_83 (by decide) ?_
            refine mv_istore_n (pc := 84) B d_Book_reserved_84 rfl (by decide) rfl ?_
            refine mv_aload_n (pc := 85) B d_Book_reserved_85 rfl 2 rfl ?_
            refine mv_getI (pc := 86) (ci := 12) (C := R_Book) (T := F_Book) (N := 65) B 5 rfl rfl (by decide) i_Book (B.2.2.2.1 _ k_1848) rfl d_Book_reserved_86 ?_
            refine mv_istore_n (pc := 89) B d_Book_reserved_89 rfl (by decide) rfl ?_
            refine mv_lpick [0, 1, 2, 3] rfl ?_
            exact lq _ _ _ (by rw [hs5]; omega) (by rw [hs5]; omega) hW9 (Nat.lt_succ_self _)
          · skip
            refine mv_goto (pc := 80) (tgt := 135) B d_Book_reserved_80 rfl ?_
            have w2 : (i9 + 1).toInt = i9.toInt + 1 := i32_inc (by omega)
            refine mv_iinc (pc := 135) (j := 0) (v := 1) B d_Book_reserved_135 rfl (by decide) (by decide) rfl ?_
            refine mv_goto (pc := 138) (tgt := 25) B d_Book_reserved_138 rfl ?_
            refine mv_lpick [0, 1] rfl ?_
            exact ih _ (by omega) (by omega) (by omega)
  refine mv_aload_n (pc := 0) B d_Book_reserved_0 rfl 0 rfl ?_
  refine mv_getI (pc := 1) (ci := 12) (C := R_Book) (T := F_Book) (N := 65) B 4 rfl rfl (by decide) i_Book (B.2.2.2.1 _ k_1847) rfl d_Book_reserved_1 ?_
  refine mv_iconst (pc := 4) (v := 1) B d_Book_reserved_4 (by decide) ?_
  refine mv_icmp_ne (pc := 5) (tgt := 21) B d_Book_reserved_5 rfl (fun h5 => ?_) (fun h5 => ?_)
  · skip
    refine mv_iconst (pc := 21) (v := 0) B d_Book_reserved_21 (by decide) ?_
    exact mv_iret (pc := 22) B hr rfl d_Book_reserved_22 (Nat.le_refl _) (Nat.le_refl _) ⟨_, rfl, rfl, by first | exact Or.inl rfl | exact Or.inr rfl⟩
  · skip
    refine mv_aload_n (pc := 8) B d_Book_reserved_8 rfl 0 rfl ?_
    refine mv_getI (pc := 9) (ci := 12) (C := R_Book) (T := F_Book) (N := 65) B 6 rfl rfl (by decide) i_Book (B.2.2.2.1 _ k_1849) rfl d_Book_reserved_9 ?_
    refine mv_aload_n (pc := 12) B d_Book_reserved_12 rfl 0 rfl ?_
    refine mv_getI (pc := 13) (ci := 12) (C := R_Book) (T := F_Book) (N := 65) B 5 rfl rfl (by decide) i_Book (B.2.2.2.1 _ k_1848) rfl d_Book_reserved_13 ?_
    refine mv_isub (pc := 16) B d_Book_reserved_16 ?_
    refine mv_topi (fun y16 ey16 => ?_)
    have fy16 := i32_subE ey16 (by (try simp only [Int32.reduceToInt]); omega) (by (try simp only [Int32.reduceToInt]); omega)
    try simp only [Int32.reduceToInt] at fy16
    refine mv_iconst (pc := 17) (v := 5) B d_Book_reserved_17 (by decide) ?_
    refine mv_icmp_le (pc := 18) (tgt := 23) B d_Book_reserved_18 rfl (fun h18 => ?_) (fun h18 => ?_)
    · skip
      have hd : (a2 : Int) - a1 ≤ 5 := by have z := Int32.le_iff_toInt_le.mp h18; rw [fy16] at z; have z : _ ≤ (5 : Int) := z; omega
      refine mv_iconst (pc := 23) (v := 0) B d_Book_reserved_23 (by decide) ?_
      refine mv_istore_n (pc := 24) B d_Book_reserved_24 rfl (by decide) rfl ?_
      refine mv_lpick [0, 1] rfl ?_
      exact lp _ _ (by decide) (by decide) (Nat.lt_succ_self _)
    · skip
      refine mv_iconst (pc := 21) (v := 0) B d_Book_reserved_21 (by decide) ?_
      exact mv_iret (pc := 22) B hr rfl d_Book_reserved_22 (Nat.le_refl _) (Nat.le_refl _) ⟨_, rfl, rfl, by first | exact Or.inl rfl | exact Or.inr rfl⟩
set_option maxHeartbeats 4000000 in
set_option maxRecDepth 100000 in
theorem c_Book_reserved_y (l : Launch) {dA : FieldType → ClassId} {D : va_G} {al : Nat → Nat} {ext : mv_Sh} {sk sv : Nat → Nat} (hi : mv_inj (mg dA D al ext)) (σ : mv_H) (len a1 a2 : Nat) (hQ : Tq 108 len σ σ a1 a2) : mv_C l y_Book_reserved (Cond.code y_Book_reserved b_Book_reserved 4 (Option.some Jvm.ClassFile.FieldType.boolean) :: ma) ({ frames := 4, cells := 0, slots := 0, locals := 85 }) (mg dA D al ext) (mK sk sv) [.ref (al 108)] σ (mv_Ri (fun v σ1 => σ1 = σ ∧ (v = 0 ∨ v = 1))) := by
  refine mv_C.ofV (cc := b_Book_reserved) (nL := 4) (ret := (Option.some Jvm.ClassFile.FieldType.boolean)) (by decide +kernel) rfl hi (Nat.le_of_ble_eq_true rfl) ?_
  intro p e s m below meth c B hNs hr hnm hno
  have hR := hQ.1.2.1
  have hz := hQ.1.2.2.1
  have hl := hQ.1.2.2.2.2.2
  have hs5 := hQ.2.1
  have hs6 := hQ.stop
  have hs7 := hQ.2.2.1
  have hs8 := hQ.1.2.2.2.2.1
  have hll := st_l9 141 (by decide)
  have lp : ∀ (nn : Nat) (i9 : Int32) (q0 : 0 ≤ i9.toInt) (q1 : i9.toInt ≤ 1000), (20000 - i9.toInt).toNat < nn → mv_V p l e ({ frames := 4, cells := 0, slots := 0, locals := 85 }) s m ([.ref (al 108)] : List Value).toArray below meth c (mg dA D al ext) 4 0 0 (mv_Q (mg dA D al ext) below s 0 0 (mv_Ri (fun v σ1 => σ1 = σ ∧ (v = 0 ∨ v = 1)))) σ 25 [(1, .int i9), (0, .ref (al 108))] [] := by
    intro nn
    induction nn with
    | zero => intro i9 q0 q1 hm; exact absurd hm (Nat.not_lt_zero _)
    | succ nn ih =>
      intro i9 q0 q1 hm
      have ihO := ih
      have lq : ∀ (nn : Nat) (k9 : Int32) (s9 : Int32) (q9 : 0 ≤ k9.toInt) (q8 : a1 ≤ k9.toInt) (hW9 : i9.toInt + a2 - a1 + 1 < (st_g 141).2.2.2.length), (20000 - k9.toInt).toNat < nn → mv_V p l e ({ frames := 4, cells := 0, slots := 0, locals := 85 }) s m ([.ref (al 108)] : List Value).toArray below meth c (mg dA D al ext) 4 0 0 (mv_Q (mg dA D al ext) below s 0 0 (mv_Ri (fun v σ1 => σ1 = σ ∧ (v = 0 ∨ v = 1)))) σ 90 [(3, .int k9), (2, .int s9), (1, .int i9), (0, .ref (al 108))] [] := by
        intro nn
        induction nn with
        | zero => intro k9 s9 q9 q8 hW9 hm; exact absurd hm (Nat.not_lt_zero _)
        | succ nn ih =>
          intro k9 s9 q9 q8 hW9 hm
          refine mv_iload_n (pc := 90) B d_Book_reserved_90 rfl 0 rfl ?_
          refine mv_aload_n (pc := 91) B d_Book_reserved_91 rfl 3 rfl ?_
          refine mv_getI (pc := 92) (ci := 12) (C := R_Book) (T := F_Book) (N := 65) B 6 rfl rfl (by decide) i_Book (B.2.2.2.1 _ k_1849) rfl d_Book_reserved_92 ?_
          refine mv_icmp_ge (pc := 95) (tgt := 129) B d_Book_reserved_95 rfl (fun h95 => ?_) (fun h95 => ?_)
          · skip
            refine mv_iload_n (pc := 129) B d_Book_reserved_129 rfl 1 rfl ?_
            refine mv_if_eq (pc := 130) (tgt := 135) B d_Book_reserved_130 rfl (fun h130 => ?_) (fun h130 => ?_)
            · skip
              have w2 : (i9 + 1).toInt = i9.toInt + 1 := i32_inc (by omega)
              refine mv_iinc (pc := 135) (j := 2) (v := 1) B d_Book_reserved_135 rfl (by decide) (by decide) rfl ?_
              refine mv_goto (pc := 138) (tgt := 25) B d_Book_reserved_138 rfl ?_
              refine mv_lpick [0, 3] rfl ?_
              exact ihO _ (by omega) (by omega) (by omega)
            · skip
              refine mv_iconst (pc := 133) (v := 1) B d_Book_reserved_133 (by decide) ?_
              exact mv_iret (pc := 134) B hr rfl d_Book_reserved_134 (Nat.le_refl _) (Nat.le_refl _) ⟨_, rfl, rfl, by first | exact Or.inl rfl | exact Or.inr rfl⟩
          · skip
            rw [Int32.le_iff_toInt_le] at h95
            have w3 : (k9 + 1).toInt = k9.toInt + 1 := i32_inc (by omega)
            refine mv_aload_n (pc := 98) B d_Book_reserved_98 rfl 3 rfl ?_
            refine mv_iload_n (pc := 99) B d_Book_reserved_99 rfl 0 rfl ?_
            refine mv_callVi (pc := 100) (n := 1) (ci := 12) (C := R_Book) B (mK_ok sk sv) hNs rfl rfl (c_Book_look_y l hi _ _ len hR hz hl q9) rfl (ma_goodc kc_Book_look) (B.2.2.2.1 _ k_2122) (B.2.2.2.1 _ k_2124) (B.2.2.2.1 _ ks_82) (B.2.2.2.1 _ k_13) ⟨by decide +kernel, by decide +kernel, by decide +kernel⟩ rfl d_Book_reserved_100 rfl (Nat.le_of_ble_eq_true rfl) ⟨by decide, by decide⟩ ⟨by decide, by decide⟩ ⟨by decide, by decide⟩ (mv_noH hno _) (fun v100 σ100 h100 => ?_)
            obtain ⟨e100, w100, z100⟩ := h100
            have e100 := e100.symm
            subst e100
            refine mv_ldcS (pc := 103) B (hNs.2.1 141 (by decide)).1 d_Book_reserved_103 ?_
            refine mv_iload_n (pc := 105) B d_Book_reserved_105 rfl 2 rfl ?_
            refine mv_iconst (pc := 106) (v := 1) B d_Book_reserved_106 (by decide) ?_
            refine mv_iadd (pc := 107) B d_Book_reserved_107 ?_
            refine mv_topi (fun y107 ey107 => ?_)
            have fy107 := i32_addE ey107 (by (try simp only [Int32.reduceToInt]); omega) (by (try simp only [Int32.reduceToInt]); omega)
            try simp only [Int32.reduceToInt] at fy107
            refine mv_iload_n (pc := 108) B d_Book_reserved_108 rfl 0 rfl ?_
            refine mv_iadd (pc := 109) B d_Book_reserved_109 ?_
            refine mv_topi (fun y109 ey109 => ?_)
            have fy109 := i32_addE ey109 (by (try simp only [Int32.reduceToInt]); omega) (by (try simp only [Int32.reduceToInt]); omega)
            try simp only [Int32.reduceToInt] at fy109
            refine mv_aload_n (pc := 110) B d_Book_reserved_110 rfl 3 rfl ?_
            refine mv_getI (pc := 111) (ci := 12) (C := R_Book) (T := F_Book) (N := 65) B 5 rfl rfl (by decide) i_Book (B.2.2.2.1 _ k_1848) rfl d_Book_reserved_111 ?_
            refine mv_isub (pc := 114) B d_Book_reserved_114 ?_
            refine mv_topi (fun y114 ey114 => ?_)
            have fy114 := i32_subE ey114 (by (try simp only [Int32.reduceToInt]); omega) (by (try simp only [Int32.reduceToInt]); omega)
            try simp only [Int32.reduceToInt] at fy114
            refine mv_callVOi (pc := 115) (n := 1) B (mK_ok sk sv) hNs (hNs.2.1 141 (by decide)).2.1 (c_String_charAt l hi _ 141 (by decide) _ (show 0 ≤ (y114 : Int32).toInt by omega) (show (y114 : Int32).toInt < _ by omega)) rfl (ma_goodc kc_String_charAt) (B.2.2.2.1 _ k_2172) (B.2.2.2.1 _ k_556) (B.2.2.2.1 _ k_557) (B.2.2.2.1 _ k_21) ⟨by decide +kernel, by decide +kernel, by decide +kernel⟩ rfl d_Book_reserved_115 rfl (Nat.le_of_ble_eq_true rfl) ⟨by decide, by decide⟩ ⟨by decide, by decide⟩ ⟨by decide, by decide⟩ (mv_noH hno _) (fun v115 σ115 h115 => ?_)
            obtain ⟨e115, z115⟩ := h115
            have e115 := e115.symm
            subst e115
            refine mv_icmp_eq (pc := 118) (tgt := 123) B d_Book_reserved_118 rfl (fun h118 => ?_) (fun h118 => ?_)
            · skip
              refine mv_iinc (pc := 123) (j := 0) (v := 1) B d_Book_reserved_123 rfl (by decide) (by decide) rfl ?_
              refine mv_goto (pc := 126) (tgt := 90) B d_Book_reserved_126 rfl ?_
              refine mv_lpick [0, 1, 2, 3] rfl ?_
              exact ih _ _ (by omega) (by omega) hW9 (by omega)
            · skip
              refine mv_iconst (pc := 121) (v := 0) B d_Book_reserved_121 (by decide) ?_
              refine mv_istore_n (pc := 122) B d_Book_reserved_122 rfl (by decide) rfl ?_
              refine mv_iinc (pc := 123) (j := 1) (v := 1) B d_Book_reserved_123 rfl (by decide) (by decide) rfl ?_
              refine mv_goto (pc := 126) (tgt := 90) B d_Book_reserved_126 rfl ?_
              refine mv_lpick [0, 1, 2, 3] rfl ?_
              exact ih _ _ (by omega) (by omega) hW9 (by omega)
      refine mv_iload_n (pc := 25) B d_Book_reserved_25 rfl 0 rfl ?_
      refine mv_aload_n (pc := 26) B d_Book_reserved_26 rfl 1 rfl ?_
      refine mv_getI (pc := 27) (ci := 12) (C := R_Book) (T := F_Book) (N := 65) B 6 rfl rfl (by decide) i_Book (B.2.2.2.1 _ k_1849) rfl d_Book_reserved_27 ?_
      refine mv_iadd (pc := 30) B d_Book_reserved_30 ?_
      refine mv_topi (fun y30 ey30 => ?_)
      have fy30 := i32_addE ey30 (by (try simp only [Int32.reduceToInt]); omega) (by (try simp only [Int32.reduceToInt]); omega)
      try simp only [Int32.reduceToInt] at fy30
      refine mv_aload_n (pc := 31) B d_Book_reserved_31 rfl 1 rfl ?_
      refine mv_getI (pc := 32) (ci := 12) (C := R_Book) (T := F_Book) (N := 65) B 5 rfl rfl (by decide) i_Book (B.2.2.2.1 _ k_1848) rfl d_Book_reserved_32 ?_
      refine mv_isub (pc := 35) B d_Book_reserved_35 ?_
      refine mv_topi (fun y35 ey35 => ?_)
      have fy35 := i32_subE ey35 (by (try simp only [Int32.reduceToInt]); omega) (by (try simp only [Int32.reduceToInt]); omega)
      try simp only [Int32.reduceToInt] at fy35
      refine mv_iconst (pc := 36) (v := 1) B d_Book_reserved_36 (by decide) ?_
      refine mv_iadd (pc := 37) B d_Book_reserved_37 ?_
      refine mv_topi (fun y37 ey37 => ?_)
      have fy37 := i32_addE ey37 (by (try simp only [Int32.reduceToInt]); omega) (by (try simp only [Int32.reduceToInt]); omega)
      try simp only [Int32.reduceToInt] at fy37
      refine mv_ldcS (pc := 38) B (hNs.2.1 141 (by decide)).1 d_Book_reserved_38 ?_
      refine mv_callVOi (pc := 40) (n := 0) B (mK_ok sk sv) hNs (hNs.2.1 141 (by decide)).2.1 (c_String_length l hi _ 141 (by decide)) rfl (ma_goodc kc_String_length) (B.2.2.2.1 _ k_2171) (B.2.2.2.1 _ k_546) (B.2.2.2.1 _ k_547) (B.2.2.2.1 _ k_21) ⟨by decide +kernel, by decide +kernel, by decide +kernel⟩ rfl d_Book_reserved_40 rfl (Nat.le_of_ble_eq_true rfl) ⟨by decide, by decide⟩ ⟨by decide, by decide⟩ ⟨by decide, by decide⟩ (mv_noH hno _) (fun v40 σ40 h40 => ?_)
      obtain ⟨e40, z40⟩ := h40
      have e40 := e40.symm
      subst e40
      refine mv_icmp_ge (pc := 43) (tgt := 141) B d_Book_reserved_43 rfl (fun h43 => ?_) (fun h43 => ?_)
      · skip
        refine mv_iconst (pc := 141) (v := 0) B d_Book_reserved_141 (by decide) ?_
        exact mv_iret (pc := 142) B hr rfl d_Book_reserved_142 (Nat.le_refl _) (Nat.le_refl _) ⟨_, rfl, rfl, by first | exact Or.inl rfl | exact Or.inr rfl⟩
      · skip
        rw [Int32.le_iff_toInt_le] at h43
        have hW9 : i9.toInt + a2 - a1 + 1 < (st_g 141).2.2.2.length := by omega
        refine mv_ldcS (pc := 46) B (hNs.2.1 141 (by decide)).1 d_Book_reserved_46 ?_
        refine mv_iload_n (pc := 48) B d_Book_reserved_48 rfl 0 rfl ?_
        refine mv_callVOi (pc := 49) (n := 1) B (mK_ok sk sv) hNs (hNs.2.1 141 (by decide)).2.1 (c_String_charAt l hi _ 141 (by decide) _ (show 0 ≤ (i9 : Int32).toInt by omega) (show (i9 : Int32).toInt < _ by omega)) rfl (ma_goodc kc_String_charAt) (B.2.2.2.1 _ k_2172) (B.2.2.2.1 _ k_556) (B.2.2.2.1 _ k_557) (B.2.2.2.1 _ k_21) ⟨by decide +kernel, by decide +kernel, by decide +kernel⟩ rfl d_Book_reserved_49 rfl (Nat.le_of_ble_eq_true rfl) ⟨by decide, by decide⟩ ⟨by decide, by decide⟩ ⟨by decide, by decide⟩ (mv_noH hno _) (fun v49 σ49 h49 => ?_)
        obtain ⟨e49, z49⟩ := h49
        have e49 := e49.symm
        subst e49
        refine mv_bipush (pc := 52) (v := 32) B d_Book_reserved_52 (by decide) ?_
        refine mv_icmp_ne (pc := 54) (tgt := 135) B d_Book_reserved_54 rfl (fun h54 => ?_) (fun h54 => ?_)
        · skip
          have w2 : (i9 + 1).toInt = i9.toInt + 1 := i32_inc (by omega)
          refine mv_iinc (pc := 135) (j := 0) (v := 1) B d_Book_reserved_135 rfl (by decide) (by decide) rfl ?_
          refine mv_goto (pc := 138) (tgt := 25) B d_Book_reserved_138 rfl ?_
          refine mv_lpick [0, 1] rfl ?_
          exact ih _ (by omega) (by omega) (by omega)
        · skip
          refine mv_ldcS (pc := 57) B (hNs.2.1 141 (by decide)).1 d_Book_reserved_57 ?_
          refine mv_iload_n (pc := 59) B d_Book_reserved_59 rfl 0 rfl ?_
          refine mv_iconst (pc := 60) (v := 1) B d_Book_reserved_60 (by decide) ?_
          refine mv_iadd (pc := 61) B d_Book_reserved_61 ?_
          refine mv_topi (fun y61 ey61 => ?_)
          have fy61 := i32_addE ey61 (by (try simp only [Int32.reduceToInt]); omega) (by (try simp only [Int32.reduceToInt]); omega)
          try simp only [Int32.reduceToInt] at fy61
          refine mv_aload_n (pc := 62) B d_Book_reserved_62 rfl 1 rfl ?_
          refine mv_getI (pc := 63) (ci := 12) (C := R_Book) (T := F_Book) (N := 65) B 6 rfl rfl (by decide) i_Book (B.2.2.2.1 _ k_1849) rfl d_Book_reserved_63 ?_
          refine mv_iadd (pc := 66) B d_Book_reserved_66 ?_
          refine mv_topi (fun y66 ey66 => ?_)
          have fy66 := i32_addE ey66 (by (try simp only [Int32.reduceToInt]); omega) (by (try simp only [Int32.reduceToInt]); omega)
          try simp only [Int32.reduceToInt] at fy66
          refine mv_aload_n (pc := 67) B d_Book_reserved_67 rfl 1 rfl ?_
          refine mv_getI (pc := 68) (ci := 12) (C := R_Book) (T := F_Book) (N := 65) B 5 rfl rfl (by decide) i_Book (B.2.2.2.1 _ k_1848) rfl d_Book_reserved_68 ?_
          refine mv_isub (pc := 71) B d_Book_reserved_71 ?_
          refine mv_topi (fun y71 ey71 => ?_)
          have fy71 := i32_subE ey71 (by (try simp only [Int32.reduceToInt]); omega) (by (try simp only [Int32.reduceToInt]); omega)
          try simp only [Int32.reduceToInt] at fy71
          refine mv_callVOi (pc := 72) (n := 1) B (mK_ok sk sv) hNs (hNs.2.1 141 (by decide)).2.1 (c_String_charAt l hi _ 141 (by decide) _ (show 0 ≤ (y71 : Int32).toInt by omega) (show (y71 : Int32).toInt < _ by omega)) rfl (ma_goodc kc_String_charAt) (B.2.2.2.1 _ k_2172) (B.2.2.2.1 _ k_556) (B.2.2.2.1 _ k_557) (B.2.2.2.1 _ k_21) ⟨by decide +kernel, by decide +kernel, by decide +kernel⟩ rfl d_Book_reserved_72 rfl (Nat.le_of_ble_eq_true rfl) ⟨by decide, by decide⟩ ⟨by decide, by decide⟩ ⟨by decide, by decide⟩ (mv_noH hno _) (fun v72 σ72 h72 => ?_)
          obtain ⟨e72, z72⟩ := h72
          have e72 := e72.symm
          subst e72
          refine mv_bipush (pc := 75) (v := 32) B d_Book_reserved_75 (by decide) ?_
          refine mv_icmp_eq (pc := 77) (tgt := 83) B d_Book_reserved_77 rfl (fun h77 => ?_) (fun h77 => ?_)
          · skip
            refine mv_iconst (pc := 83) (v := 1) B d_Book_reserved_83 (by decide) ?_
            refine mv_istore_n (pc := 84) B d_Book_reserved_84 rfl (by decide) rfl ?_
            refine mv_aload_n (pc := 85) B d_Book_reserved_85 rfl 2 rfl ?_
            refine mv_getI (pc := 86) (ci := 12) (C := R_Book) (T := F_Book) (N := 65) B 5 rfl rfl (by decide) i_Book (B.2.2.2.1 _ k_1848) rfl d_Book_reserved_86 ?_
            refine mv_istore_n (pc := 89) B d_Book_reserved_89 rfl (by decide) rfl ?_
            refine mv_lpick [0, 1, 2, 3] rfl ?_
            exact lq _ _ _ (by rw [hs5]; omega) (by rw [hs5]; omega) hW9 (Nat.lt_succ_self _)
          · skip
            refine mv_goto (pc := 80) (tgt := 135) B d_Book_reserved_80 rfl ?_
            have w2 : (i9 + 1).toInt = i9.toInt + 1 := i32_inc (by omega)
            refine mv_iinc (pc := 135) (j := 0) (v := 1) B d_Book_reserved_135 rfl (by decide) (by decide) rfl ?_
            refine mv_goto (pc := 138) (tgt := 25) B d_Book_reserved_138 rfl ?_
            refine mv_lpick [0, 1] rfl ?_
            exact ih _ (by omega) (by omega) (by omega)
  refine mv_aload_n (pc := 0) B d_Book_reserved_0 rfl 0 rfl ?_
  refine mv_getI (pc := 1) (ci := 12) (C := R_Book) (T := F_Book) (N := 65) B 4 rfl rfl (by decide) i_Book (B.2.2.2.1 _ k_1847) rfl d_Book_reserved_1 ?_
  refine mv_iconst (pc := 4) (v := 1) B d_Book_reserved_4 (by decide) ?_
  refine mv_icmp_ne (pc := 5) (tgt := 21) B d_Book_reserved_5 rfl (fun h5 => ?_) (fun h5 => ?_)
  · skip
    refine mv_iconst (pc := 21) (v := 0) B d_Book_reserved_21 (by decide) ?_
    exact mv_iret (pc := 22) B hr rfl d_Book_reserved_22 (Nat.le_refl _) (Nat.le_refl _) ⟨_, rfl, rfl, by first | exact Or.inl rfl | exact Or.inr rfl⟩
  · skip
    refine mv_aload_n (pc := 8) B d_Book_reserved_8 rfl 0 rfl ?_
    refine mv_getI (pc := 9) (ci := 12) (C := R_Book) (T := F_Book) (N := 65) B 6 rfl rfl (by decide) i_Book (B.2.2.2.1 _ k_1849) rfl d_Book_reserved_9 ?_
    refine mv_aload_n (pc := 12) B d_Book_reserved_12 rfl 0 rfl ?_
    refine mv_getI (pc := 13) (ci := 12) (C := R_Book) (T := F_Book) (N := 65) B 5 rfl rfl (by decide) i_Book (B.2.2.2.1 _ k_1848) rfl d_Book_reserved_13 ?_
    refine mv_isub (pc := 16) B d_Book_reserved_16 ?_
    refine mv_topi (fun y16 ey16 => ?_)
    have fy16 := i32_subE ey16 (by (try simp only [Int32.reduceToInt]); omega) (by (try simp only [Int32.reduceToInt]); omega)
    try simp only [Int32.reduceToInt] at fy16
    refine mv_iconst (pc := 17) (v := 5) B d_Book_reserved_17 (by decide) ?_
    refine mv_icmp_le (pc := 18) (tgt := 23) B d_Book_reserved_18 rfl (fun h18 => ?_) (fun h18 => ?_)
    · skip
      have hd : (a2 : Int) - a1 ≤ 5 := by have z := Int32.le_iff_toInt_le.mp h18; rw [fy16] at z; have z : _ ≤ (5 : Int) := z; omega
      refine mv_iconst (pc := 23) (v := 0) B d_Book_reserved_23 (by decide) ?_
      refine mv_istore_n (pc := 24) B d_Book_reserved_24 rfl (by decide) rfl ?_
      refine mv_lpick [0, 1] rfl ?_
      exact lp _ _ (by decide) (by decide) (Nat.lt_succ_self _)
    · skip
      refine mv_iconst (pc := 21) (v := 0) B d_Book_reserved_21 (by decide) ?_
      exact mv_iret (pc := 22) B hr rfl d_Book_reserved_22 (Nat.le_refl _) (Nat.le_refl _) ⟨_, rfl, rfl, by first | exact Or.inl rfl | exact Or.inr rfl⟩
def y_Book_name : MethodName := ⟨"MachineLoomModel$Book", "name", "()V"⟩
abbrev b_Book_name : ByteArray := prog_15_method_42_code
theorem kc_Book_name : Cond.code y_Book_name b_Book_name 1 (Option.none : Option Jvm.ClassFile.FieldType) ∈ ma := ma_of (tb_10 _ (List.mem_of_getElem? (i := 37) rfl)) rfl
theorem k_2198 : (Jvm.Cond.methodLink "MachineLoomModel$Book" (343 : Nat) ({ cls := "MachineLoomModel$Book", name := "reserved", desc := "()Z" } : Jvm.MethodName)) ∈ ma := ma_of (tb_10 _ (List.mem_of_getElem? (i := 38) rfl)) rfl
theorem k_2200 : (Jvm.Cond.instanceMethod ({ cls := "MachineLoomModel$Book", name := "reserved", desc := "()Z" } : Jvm.MethodName)) ∈ ma := ma_of (tb_10 _ (List.mem_of_getElem? (i := 40) rfl)) rfl
theorem ks_95 : Cond.selects "MachineLoomModel$Book" ⟨"MachineLoomModel$Book", "reserved", "()Z"⟩ ⟨"MachineLoomModel$Book", "reserved", "()Z"⟩ ∈ ma := ma_sel 95 rfl rfl
theorem k_1898 : (Jvm.Cond.fieldLink "MachineLoomModel$Book" (350 : Nat) "MachineLoomModel$Book" "nameFrom" "I") ∈ ma := ma_of (tb_8 _ (List.mem_of_getElem? (i := 218) rfl)) rfl
theorem k_1899 : (Jvm.Cond.fieldLink "MachineLoomModel$Book" (353 : Nat) "MachineLoomModel$Book" "nameTo" "I") ∈ ma := ma_of (tb_8 _ (List.mem_of_getElem? (i := 219) rfl)) rfl
theorem d_Book_name_0 : decode b_Book_name 0 = .ok (.aload_n 0, 1) := by decide +kernel
theorem d_Book_name_1 : decode b_Book_name 1 = .ok (.getfield 151, 3) := by decide +kernel
theorem d_Book_name_4 : decode b_Book_name 4 = .ok (.iconst 1, 1) := by decide +kernel
theorem d_Book_name_5 : decode b_Book_name 5 = .ok (.if_icmp .ne (10), 3) := by decide +kernel
theorem d_Book_name_8 : decode b_Book_name 8 = .ok (.aload_n 0, 1) := by decide +kernel
theorem d_Book_name_9 : decode b_Book_name 9 = .ok (.invokevirtual 343, 3) := by decide +kernel
theorem d_Book_name_12 : decode b_Book_name 12 = .ok (.ifCond .eq (12), 3) := by decide +kernel
theorem d_Book_name_15 : decode b_Book_name 15 = .ok (.aload_n 0, 1) := by decide +kernel
theorem d_Book_name_16 : decode b_Book_name 16 = .ok (.aload_n 0, 1) := by decide +kernel
theorem d_Book_name_17 : decode b_Book_name 17 = .ok (.getfield 174, 3) := by decide +kernel
theorem d_Book_name_20 : decode b_Book_name 20 = .ok (.invokevirtual 193, 3) := by decide +kernel
theorem d_Book_name_23 : decode b_Book_name 23 = .ok (.athrow, 1) := by decide +kernel
theorem d_Book_name_24 : decode b_Book_name 24 = .ok (.aload_n 0, 1) := by decide +kernel
theorem d_Book_name_25 : decode b_Book_name 25 = .ok (.aload_n 0, 1) := by decide +kernel
theorem d_Book_name_26 : decode b_Book_name 26 = .ok (.getfield 174, 3) := by decide +kernel
theorem d_Book_name_29 : decode b_Book_name 29 = .ok (.putfield 350, 3) := by decide +kernel
theorem d_Book_name_32 : decode b_Book_name 32 = .ok (.aload_n 0, 1) := by decide +kernel
theorem d_Book_name_33 : decode b_Book_name 33 = .ok (.aload_n 0, 1) := by decide +kernel
theorem d_Book_name_34 : decode b_Book_name 34 = .ok (.getfield 190, 3) := by decide +kernel
theorem d_Book_name_37 : decode b_Book_name 37 = .ok (.putfield 353, 3) := by decide +kernel
theorem d_Book_name_40 : decode b_Book_name 40 = .ok (.aload_n 0, 1) := by decide +kernel
theorem d_Book_name_41 : decode b_Book_name 41 = .ok (.invokevirtual 203, 3) := by decide +kernel
theorem d_Book_name_44 : decode b_Book_name 44 = .ok (.return_, 1) := by decide +kernel
set_option maxHeartbeats 4000000 in
set_option maxRecDepth 100000 in
theorem c_Book_name_x (l : Launch) {dA : FieldType → ClassId} {D : va_G} {al : Nat → Nat} {ext : mv_Sh} {sk sv : Nat → Nat} (hi : mv_inj (mg dA D al ext)) (σ : mv_H) (len a1 a2 : Nat) (hQ : Tq 74 len σ σ a1 a2) : mv_C l y_Book_name (Cond.code y_Book_name b_Book_name 1 (Option.none : Option Jvm.ClassFile.FieldType) :: ma) ({ frames := 5, cells := 0, slots := 0, locals := 108 }) (mg dA D al ext) (mK sk sv) [.ref (al 74)] σ (mv_Uv (fun σ1 => mv_i σ 74 4 = 1 ∧ (mv_i σ 74 8).toInt ≤ 60 ∧ (∃ b1 b2, Tq 74 len σ1 σ1 b1 b2 ∧ a2 ≤ b1) ∧ TkB 74 (mv_si (mv_si σ 74 49 (mv_i σ 74 5)) 74 50 (mv_i σ 74 6)) σ1) ("MachineLoomModel$Book$Wrong", al 107) (fun σ1 => BF 74 σ σ1)) := by
  refine mv_C.ofV (cc := b_Book_name) (nL := 1) (ret := (Option.none : Option Jvm.ClassFile.FieldType)) (by decide +kernel) rfl hi (Nat.le_of_ble_eq_true rfl) ?_
  intro p e s m below meth c B hNs hr hnm hno
  refine mv_aload_n (pc := 0) B d_Book_name_0 rfl 0 rfl ?_
  refine mv_getI (pc := 1) (ci := 12) (C := R_Book) (T := F_Book) (N := 65) B 4 rfl rfl (by decide) i_Book (B.2.2.2.1 _ k_1847) rfl d_Book_name_1 ?_
  refine mv_iconst (pc := 4) (v := 1) B d_Book_name_4 (by decide) ?_
  refine mv_icmp_ne (pc := 5) (tgt := 15) B d_Book_name_5 rfl (fun h5 => ?_) (fun h5 => ?_)
  · skip
    refine mv_aload_n (pc := 15) B d_Book_name_15 rfl 0 rfl ?_
    refine mv_aload_n (pc := 16) B d_Book_name_16 rfl 0 rfl ?_
    refine mv_getI (pc := 17) (ci := 12) (C := R_Book) (T := F_Book) (N := 65) B 5 rfl rfl (by decide) i_Book (B.2.2.2.1 _ k_1848) rfl d_Book_name_17 ?_
    refine mv_callVr (pc := 20) (n := 1) (ci := 12) (C := R_Book) B (mK_ok sk sv) hNs rfl rfl (c_Book_wrongAt_x l hi _ _ hQ.1.2.1) rfl (ma_goodc kc_Book_wrongAt) (B.2.2.2.1 _ k_2154) (B.2.2.2.1 _ k_2156) (B.2.2.2.1 _ ks_86) (B.2.2.2.1 _ k_13) ⟨by decide +kernel, by decide +kernel, by decide +kernel⟩ rfl d_Book_name_20 rfl (Nat.le_of_ble_eq_true rfl) ⟨by decide, by decide⟩ ⟨by decide, by decide⟩ ⟨by decide, by decide⟩ (mv_noH hno _) (fun σ20 h20 => ?_)
    obtain ⟨g20, -⟩ := h20
    exact mv_athrowO (pc := 23) (o := 107) B rfl rfl (mv_noH hno _) d_Book_name_23 (Nat.le_refl _) (Nat.le_refl _) (Or.inr ⟨rfl, g20.bf⟩)
  · skip
    refine mv_aload_n (pc := 8) B d_Book_name_8 rfl 0 rfl ?_
    refine mv_callVi (pc := 9) (n := 0) (ci := 12) (C := R_Book) B (mK_ok sk sv) hNs rfl rfl (c_Book_reserved_x l hi _ len a1 a2 hQ) rfl (ma_goodc kc_Book_reserved) (B.2.2.2.1 _ k_2198) (B.2.2.2.1 _ k_2200) (B.2.2.2.1 _ ks_95) (B.2.2.2.1 _ k_13) ⟨by decide +kernel, by decide +kernel, by decide +kernel⟩ rfl d_Book_name_9 rfl (Nat.le_of_ble_eq_true rfl) ⟨by decide, by decide⟩ ⟨by decide, by decide⟩ ⟨by decide, by decide⟩ (mv_noH hno _) (fun v9 σ9 h9 => ?_)
    obtain ⟨e9, z9⟩ := h9
    have e9 := e9.symm
    subst e9
    refine mv_if_eq (pc := 12) (tgt := 24) B d_Book_name_12 rfl (fun h12 => ?_) (fun h12 => ?_)
    · skip
      refine mv_aload_n (pc := 24) B d_Book_name_24 rfl 0 rfl ?_
      refine mv_aload_n (pc := 25) B d_Book_name_25 rfl 0 rfl ?_
      refine mv_getI (pc := 26) (ci := 12) (C := R_Book) (T := F_Book) (N := 65) B 5 rfl rfl (by decide) i_Book (B.2.2.2.1 _ k_1848) rfl d_Book_name_26 ?_
      refine mv_putI (pc := 29) (ci := 12) (C := R_Book) (T := F_Book) (N := 65) B 49 rfl rfl (by decide) i_Book t_Book_ok n_Book (B.2.2.2.1 _ k_1898) rfl rfl rfl rfl d_Book_name_29 ?_
      refine mv_aload_n (pc := 32) B d_Book_name_32 rfl 0 rfl ?_
      refine mv_aload_n (pc := 33) B d_Book_name_33 rfl 0 rfl ?_
      refine mv_getI (pc := 34) (ci := 12) (C := R_Book) (T := F_Book) (N := 65) B 6 rfl rfl (by decide) i_Book (B.2.2.2.1 _ k_1849) rfl d_Book_name_34 ?_
      refine mv_putI (pc := 37) (ci := 12) (C := R_Book) (T := F_Book) (N := 65) B 50 rfl rfl (by decide) i_Book t_Book_ok n_Book (B.2.2.2.1 _ k_1899) rfl rfl rfl rfl d_Book_name_37 ?_
      refine mv_gen (fun S40 eS40 => ?_)
      have eS := eS40
      have hb9 : BF 74 σ S40 := by rw [eS40]; exact (BF.rf.si ⟨by omega, by omega⟩).si ⟨by omega, by omega⟩
      have hd8 : mv_i S40 74 8 = mv_i σ 74 8 := by rw [eS40]; rfl
      have hQ := hQ.keep (τ := S40) (fun k h1 h2 => by rw [eS40]; exact (mv_si_o _ _ (by omega)).trans (mv_si_o _ _ (by omega))) (by rw [eS40]; rfl)
      clear eS40
      refine mv_aload_n (pc := 40) B d_Book_name_40 rfl 0 rfl ?_
      refine mv_callVUv (pc := 41) (n := 0) (ci := 12) (C := R_Book) B (mK_ok sk sv) hNs rfl rfl (c_Book_pass_x l hi _ len a1 a2 hQ) rfl (ma_goodc kc_Book_pass) (B.2.2.2.1 _ k_2173) (B.2.2.2.1 _ k_2175) (B.2.2.2.1 _ ks_90) (B.2.2.2.1 _ k_13) ⟨by decide +kernel, by decide +kernel, by decide +kernel⟩ rfl d_Book_name_41 rfl (Nat.le_of_ble_eq_true rfl) ⟨by decide, by decide⟩ ⟨by decide, by decide⟩ ⟨by decide, by decide⟩ (mv_noH hno _) (fun τ9 g9 => Or.inr ⟨rfl, hb9.tr g9.bf⟩) (fun σ41 h41 => ?_)
      obtain ⟨d41, b1, b2, q41, b41⟩ := h41
      exact mv_vret (pc := 44) B hr d_Book_name_44 (Nat.le_refl _) (Nat.le_refl _) (Or.inl ⟨rfl, h5, by rw [← hd8]; exact d41, ⟨b1, b2, q41.re, b41⟩, eS ▸ q41.1.1⟩)
    · skip
      refine mv_aload_n (pc := 15) B d_Book_name_15 rfl 0 rfl ?_
      refine mv_aload_n (pc := 16) B d_Book_name_16 rfl 0 rfl ?_
      refine mv_getI (pc := 17) (ci := 12) (C := R_Book) (T := F_Book) (N := 65) B 5 rfl rfl (by decide) i_Book (B.2.2.2.1 _ k_1848) rfl d_Book_name_17 ?_
      refine mv_callVr (pc := 20) (n := 1) (ci := 12) (C := R_Book) B (mK_ok sk sv) hNs rfl rfl (c_Book_wrongAt_x l hi _ _ hQ.1.2.1) rfl (ma_goodc kc_Book_wrongAt) (B.2.2.2.1 _ k_2154) (B.2.2.2.1 _ k_2156) (B.2.2.2.1 _ ks_86) (B.2.2.2.1 _ k_13) ⟨by decide +kernel, by decide +kernel, by decide +kernel⟩ rfl d_Book_name_20 rfl (Nat.le_of_ble_eq_true rfl) ⟨by decide, by decide⟩ ⟨by decide, by decide⟩ ⟨by decide, by decide⟩ (mv_noH hno _) (fun σ20 h20 => ?_)
      obtain ⟨g20, -⟩ := h20
      exact mv_athrowO (pc := 23) (o := 107) B rfl rfl (mv_noH hno _) d_Book_name_23 (Nat.le_refl _) (Nat.le_refl _) (Or.inr ⟨rfl, g20.bf⟩)
set_option maxHeartbeats 4000000 in
set_option maxRecDepth 100000 in
theorem c_Book_name_y (l : Launch) {dA : FieldType → ClassId} {D : va_G} {al : Nat → Nat} {ext : mv_Sh} {sk sv : Nat → Nat} (hi : mv_inj (mg dA D al ext)) (σ : mv_H) (len a1 a2 : Nat) (hQ : Tq 108 len σ σ a1 a2) : mv_C l y_Book_name (Cond.code y_Book_name b_Book_name 1 (Option.none : Option Jvm.ClassFile.FieldType) :: ma) ({ frames := 5, cells := 0, slots := 0, locals := 108 }) (mg dA D al ext) (mK sk sv) [.ref (al 108)] σ (mv_Uv (fun σ1 => mv_i σ 108 4 = 1 ∧ (mv_i σ 108 8).toInt ≤ 60 ∧ (∃ b1 b2, Tq 108 len σ1 σ1 b1 b2 ∧ a2 ≤ b1) ∧ TkB 108 (mv_si (mv_si σ 108 49 (mv_i σ 108 5)) 108 50 (mv_i σ 108 6)) σ1) ("MachineLoomModel$Book$Wrong", al 141) (fun σ1 => BF 108 σ σ1)) := by
  refine mv_C.ofV (cc := b_Book_name) (nL := 1) (ret := (Option.none : Option Jvm.ClassFile.FieldType)) (by decide +kernel) rfl hi (Nat.le_of_ble_eq_true rfl) ?_
  intro p e s m below meth c B hNs hr hnm hno
  refine mv_aload_n (pc := 0) B d_Book_name_0 rfl 0 rfl ?_
  refine mv_getI (pc := 1) (ci := 12) (C := R_Book) (T := F_Book) (N := 65) B 4 rfl rfl (by decide) i_Book (B.2.2.2.1 _ k_1847) rfl d_Book_name_1 ?_
  refine mv_iconst (pc := 4) (v := 1) B d_Book_name_4 (by decide) ?_
  refine mv_icmp_ne (pc := 5) (tgt := 15) B d_Book_name_5 rfl (fun h5 => ?_) (fun h5 => ?_)
  · skip
    refine mv_aload_n (pc := 15) B d_Book_name_15 rfl 0 rfl ?_
    refine mv_aload_n (pc := 16) B d_Book_name_16 rfl 0 rfl ?_
    refine mv_getI (pc := 17) (ci := 12) (C := R_Book) (T := F_Book) (N := 65) B 5 rfl rfl (by decide) i_Book (B.2.2.2.1 _ k_1848) rfl d_Book_name_17 ?_
    refine mv_callVr (pc := 20) (n := 1) (ci := 12) (C := R_Book) B (mK_ok sk sv) hNs rfl rfl (c_Book_wrongAt_y l hi _ _ hQ.1.2.1) rfl (ma_goodc kc_Book_wrongAt) (B.2.2.2.1 _ k_2154) (B.2.2.2.1 _ k_2156) (B.2.2.2.1 _ ks_86) (B.2.2.2.1 _ k_13) ⟨by decide +kernel, by decide +kernel, by decide +kernel⟩ rfl d_Book_name_20 rfl (Nat.le_of_ble_eq_true rfl) ⟨by decide, by decide⟩ ⟨by decide, by decide⟩ ⟨by decide, by decide⟩ (mv_noH hno _) (fun σ20 h20 => ?_)
    obtain ⟨g20, -⟩ := h20
    exact mv_athrowO (pc := 23) (o := 141) B rfl rfl (mv_noH hno _) d_Book_name_23 (Nat.le_refl _) (Nat.le_refl _) (Or.inr ⟨rfl, g20.bf⟩)
  · skip
    refine mv_aload_n (pc := 8) B d_Book_name_8 rfl 0 rfl ?_
    refine mv_callVi (pc := 9) (n := 0) (ci := 12) (C := R_Book) B (mK_ok sk sv) hNs rfl rfl (c_Book_reserved_y l hi _ len a1 a2 hQ) rfl (ma_goodc kc_Book_reserved) (B.2.2.2.1 _ k_2198) (B.2.2.2.1 _ k_2200) (B.2.2.2.1 _ ks_95) (B.2.2.2.1 _ k_13) ⟨by decide +kernel, by decide +kernel, by decide +kernel⟩ rfl d_Book_name_9 rfl (Nat.le_of_ble_eq_true rfl) ⟨by decide, by decide⟩ ⟨by decide, by decide⟩ ⟨by decide, by decide⟩ (mv_noH hno _) (fun v9 σ9 h9 => ?_)
    obtain ⟨e9, z9⟩ := h9
    have e9 := e9.symm
    subst e9
    refine mv_if_eq (pc := 12) (tgt := 24) B d_Book_name_12 rfl (fun h12 => ?_) (fun h12 => ?_)
    · skip
      refine mv_aload_n (pc := 24) B d_Book_name_24 rfl 0 rfl ?_
      refine mv_aload_n (pc := 25) B d_Book_name_25 rfl 0 rfl ?_
      refine mv_getI (pc := 26) (ci := 12) (C := R_Book) (T := F_Book) (N := 65) B 5 rfl rfl (by decide) i_Book (B.2.2.2.1 _ k_1848) rfl d_Book_name_26 ?_
      refine mv_putI (pc := 29) (ci := 12) (C := R_Book) (T := F_Book) (N := 65) B 49 rfl rfl (by decide) i_Book t_Book_ok n_Book (B.2.2.2.1 _ k_1898) rfl rfl rfl rfl d_Book_name_29 ?_
      refine mv_aload_n (pc := 32) B d_Book_name_32 rfl 0 rfl ?_
      refine mv_aload_n (pc := 33) B d_Book_name_33 rfl 0 rfl ?_
      refine mv_getI (pc := 34) (ci := 12) (C := R_Book) (T := F_Book) (N := 65) B 6 rfl rfl (by decide) i_Book (B.2.2.2.1 _ k_1849) rfl d_Book_name_34 ?_
      refine mv_putI (pc := 37) (ci := 12) (C := R_Book) (T := F_Book) (N := 65) B 50 rfl rfl (by decide) i_Book t_Book_ok n_Book (B.2.2.2.1 _ k_1899) rfl rfl rfl rfl d_Book_name_37 ?_
      refine mv_gen (fun S40 eS40 => ?_)
      have eS := eS40
      have hb9 : BF 108 σ S40 := by rw [eS40]; exact (BF.rf.si ⟨by omega, by omega⟩).si ⟨by omega, by omega⟩
      have hd8 : mv_i S40 108 8 = mv_i σ 108 8 := by rw [eS40]; rfl
      have hQ := hQ.keep (τ := S40) (fun k h1 h2 => by rw [eS40]; exact (mv_si_o _ _ (by omega)).trans (mv_si_o _ _ (by omega))) (by rw [eS40]; rfl)
      clear eS40
      refine mv_aload_n (pc := 40) B d_Book_name_40 rfl 0 rfl ?_
      refine mv_callVUv (pc := 41) (n := 0) (ci := 12) (C := R_Book) B (mK_ok sk sv) hNs rfl rfl (c_Book_pass_y l hi _ len a1 a2 hQ) rfl (ma_goodc kc_Book_pass) (B.2.2.2.1 _ k_2173) (B.2.2.2.1 _ k_2175) (B.2.2.2.1 _ ks_90) (B.2.2.2.1 _ k_13) ⟨by decide +kernel, by decide +kernel, by decide +kernel⟩ rfl d_Book_name_41 rfl (Nat.le_of_ble_eq_true rfl) ⟨by decide, by decide⟩ ⟨by decide, by decide⟩ ⟨by decide, by decide⟩ (mv_noH hno _) (fun τ9 g9 => Or.inr ⟨rfl, hb9.tr g9.bf⟩) (fun σ41 h41 => ?_)
      obtain ⟨d41, b1, b2, q41, b41⟩ := h41
      exact mv_vret (pc := 44) B hr d_Book_name_44 (Nat.le_refl _) (Nat.le_refl _) (Or.inl ⟨rfl, h5, by rw [← hd8]; exact d41, ⟨b1, b2, q41.re, b41⟩, eS ▸ q41.1.1⟩)
    · skip
      refine mv_aload_n (pc := 15) B d_Book_name_15 rfl 0 rfl ?_
      refine mv_aload_n (pc := 16) B d_Book_name_16 rfl 0 rfl ?_
      refine mv_getI (pc := 17) (ci := 12) (C := R_Book) (T := F_Book) (N := 65) B 5 rfl rfl (by decide) i_Book (B.2.2.2.1 _ k_1848) rfl d_Book_name_17 ?_
      refine mv_callVr (pc := 20) (n := 1) (ci := 12) (C := R_Book) B (mK_ok sk sv) hNs rfl rfl (c_Book_wrongAt_y l hi _ _ hQ.1.2.1) rfl (ma_goodc kc_Book_wrongAt) (B.2.2.2.1 _ k_2154) (B.2.2.2.1 _ k_2156) (B.2.2.2.1 _ ks_86) (B.2.2.2.1 _ k_13) ⟨by decide +kernel, by decide +kernel, by decide +kernel⟩ rfl d_Book_name_20 rfl (Nat.le_of_ble_eq_true rfl) ⟨by decide, by decide⟩ ⟨by decide, by decide⟩ ⟨by decide, by decide⟩ (mv_noH hno _) (fun σ20 h20 => ?_)
      obtain ⟨g20, -⟩ := h20
      exact mv_athrowO (pc := 23) (o := 141) B rfl rfl (mv_noH hno _) d_Book_name_23 (Nat.le_refl _) (Nat.le_refl _) (Or.inr ⟨rfl, g20.bf⟩)
def y_Book_ranged : MethodName := ⟨"MachineLoomModel$Book", "ranged", "(JJ)I"⟩
abbrev b_Book_ranged : ByteArray := prog_15_method_43_code
theorem kc_Book_ranged : Cond.code y_Book_ranged b_Book_ranged 8 (Option.some Jvm.ClassFile.FieldType.int) ∈ ma := ma_of (tb_10 _ (List.mem_of_getElem? (i := 46) rfl)) rfl
theorem k_2177 : (Jvm.Cond.methodLink "MachineLoomModel$Book" (259 : Nat) ({ cls := "MachineLoomModel$Book", name := "need", desc := "(I)V" } : Jvm.MethodName)) ∈ ma := ma_of (tb_10 _ (List.mem_of_getElem? (i := 17) rfl)) rfl
theorem k_2179 : (Jvm.Cond.instanceMethod ({ cls := "MachineLoomModel$Book", name := "need", desc := "(I)V" } : Jvm.MethodName)) ∈ ma := ma_of (tb_10 _ (List.mem_of_getElem? (i := 19) rfl)) rfl
theorem ks_91 : Cond.selects "MachineLoomModel$Book" ⟨"MachineLoomModel$Book", "need", "(I)V"⟩ ⟨"MachineLoomModel$Book", "need", "(I)V"⟩ ∈ ma := ma_sel 91 rfl rfl
theorem k_12 : (Jvm.Cond.initialized "MachineLoomModel") ∈ ma := ma_of (tb_1 _ (List.mem_of_getElem? (i := 12) rfl)) rfl
theorem k_2208 : (Jvm.Cond.static ({ cls := "MachineLoomModel", name := "in", desc := "(JJJ)Z" } : Jvm.MethodName)) ∈ ma := ma_of (tb_10 _ (List.mem_of_getElem? (i := 48) rfl)) rfl
theorem k_2185 : (Jvm.Cond.methodLink "MachineLoomModel$Book" (267 : Nat) ({ cls := "MachineLoomModel$Book", name := "fault", desc := "(II)V" } : Jvm.MethodName)) ∈ ma := ma_of (tb_10 _ (List.mem_of_getElem? (i := 25) rfl)) rfl
theorem k_2187 : (Jvm.Cond.instanceMethod ({ cls := "MachineLoomModel$Book", name := "fault", desc := "(II)V" } : Jvm.MethodName)) ∈ ma := ma_of (tb_10 _ (List.mem_of_getElem? (i := 27) rfl)) rfl
theorem ks_92 : Cond.selects "MachineLoomModel$Book" ⟨"MachineLoomModel$Book", "fault", "(II)V"⟩ ⟨"MachineLoomModel$Book", "fault", "(II)V"⟩ ∈ ma := ma_sel 92 rfl rfl
theorem d_Book_ranged_0 : decode b_Book_ranged 0 = .ok (.aload_n 0, 1) := by decide +kernel
theorem d_Book_ranged_1 : decode b_Book_ranged 1 = .ok (.getfield 154, 3) := by decide +kernel
theorem d_Book_ranged_4 : decode b_Book_ranged 4 = .ok (.lstore 5, 2) := by decide +kernel
theorem d_Book_ranged_6 : decode b_Book_ranged 6 = .ok (.aload_n 0, 1) := by decide +kernel
theorem d_Book_ranged_7 : decode b_Book_ranged 7 = .ok (.getfield 174, 3) := by decide +kernel
theorem d_Book_ranged_10 : decode b_Book_ranged 10 = .ok (.istore 7, 2) := by decide +kernel
theorem d_Book_ranged_12 : decode b_Book_ranged 12 = .ok (.aload_n 0, 1) := by decide +kernel
theorem d_Book_ranged_13 : decode b_Book_ranged 13 = .ok (.iconst 2, 1) := by decide +kernel
theorem d_Book_ranged_14 : decode b_Book_ranged 14 = .ok (.invokevirtual 259, 3) := by decide +kernel
theorem d_Book_ranged_17 : decode b_Book_ranged 17 = .ok (.lload 5, 2) := by decide +kernel
theorem d_Book_ranged_19 : decode b_Book_ranged 19 = .ok (.lload_n 1, 1) := by decide +kernel
theorem d_Book_ranged_20 : decode b_Book_ranged 20 = .ok (.lload_n 3, 1) := by decide +kernel
theorem d_Book_ranged_21 : decode b_Book_ranged 21 = .ok (.invokestatic 296, 3) := by decide +kernel
theorem d_Book_ranged_24 : decode b_Book_ranged 24 = .ok (.ifCond .eq (7), 3) := by decide +kernel
theorem d_Book_ranged_27 : decode b_Book_ranged 27 = .ok (.lload 5, 2) := by decide +kernel
theorem d_Book_ranged_29 : decode b_Book_ranged 29 = .ok (.l2i, 1) := by decide +kernel
theorem d_Book_ranged_30 : decode b_Book_ranged 30 = .ok (.ireturn, 1) := by decide +kernel
theorem d_Book_ranged_31 : decode b_Book_ranged 31 = .ok (.aload_n 0, 1) := by decide +kernel
theorem d_Book_ranged_32 : decode b_Book_ranged 32 = .ok (.iconst 3, 1) := by decide +kernel
theorem d_Book_ranged_33 : decode b_Book_ranged 33 = .ok (.iload 7, 2) := by decide +kernel
theorem d_Book_ranged_35 : decode b_Book_ranged 35 = .ok (.invokevirtual 267, 3) := by decide +kernel
theorem d_Book_ranged_38 : decode b_Book_ranged 38 = .ok (.iconst (-1), 1) := by decide +kernel
theorem d_Book_ranged_39 : decode b_Book_ranged 39 = .ok (.ireturn, 1) := by decide +kernel
set_option maxHeartbeats 4000000 in
set_option maxRecDepth 100000 in
theorem c_Book_ranged_x (l : Launch) {dA : FieldType → ClassId} {D : va_G} {al : Nat → Nat} {ext : mv_Sh} {sk sv : Nat → Nat} (hi : mv_inj (mg dA D al ext)) (σ : mv_H) (x9 y9 : Int64) (hx : 1 ≤ x9.toInt) (hy : y9.toInt < 2147483648) (len a1 a2 : Nat) (hQ : Tq 74 len σ σ a1 a2) : mv_C l y_Book_ranged (Cond.code y_Book_ranged b_Book_ranged 8 (Option.some Jvm.ClassFile.FieldType.int) :: ma) ({ frames := 6, cells := 0, slots := 0, locals := 126 }) (mg dA D al ext) (mK sk sv) [.ref (al 74), .long x9, .long y9] σ (mv_Ui (fun v σ1 => mv_i σ 74 4 = 2 ∧ (mv_i σ 74 8).toInt ≤ 60 ∧ (∃ b1 b2, Tq 74 len σ1 σ1 b1 b2 ∧ a2 ≤ b1) ∧ TF 74 σ σ1 ∧ ((mv_i σ1 74 38).toInt ≤ 0 → (mv_i σ 74 38).toInt ≤ 0) ∧ ((v = -1 ∧ ¬ (mv_i σ1 74 38).toInt ≤ 0) ∨ (x9.toInt ≤ v.toInt ∧ v.toInt ≤ y9.toInt))) ("MachineLoomModel$Book$Wrong", al 107) (fun σ1 => TkB 74 σ σ1)) := by
  refine mv_C.ofV (cc := b_Book_ranged) (nL := 8) (ret := (Option.some Jvm.ClassFile.FieldType.int)) (by decide +kernel) rfl hi (Nat.le_of_ble_eq_true rfl) ?_
  intro p e s m below meth c B hNs hr hnm hno
  refine mv_aload_n (pc := 0) B d_Book_ranged_0 rfl 0 rfl ?_
  refine mv_getL (pc := 1) (ci := 12) (C := R_Book) (T := F_Book) (N := 65) B 9 rfl rfl (by decide) i_Book (B.2.2.2.1 _ k_1852) rfl d_Book_ranged_1 ?_
  refine mv_lstore (pc := 4) B d_Book_ranged_4 (by decide) rfl ?_
  refine mv_aload_n (pc := 6) B d_Book_ranged_6 rfl 1 rfl ?_
  refine mv_getI (pc := 7) (ci := 12) (C := R_Book) (T := F_Book) (N := 65) B 5 rfl rfl (by decide) i_Book (B.2.2.2.1 _ k_1848) rfl d_Book_ranged_7 ?_
  refine mv_istore (pc := 10) B d_Book_ranged_10 (by decide) rfl ?_
  refine mv_aload_n (pc := 12) B d_Book_ranged_12 rfl 2 rfl ?_
  refine mv_iconst (pc := 13) (v := 2) B d_Book_ranged_13 (by decide) ?_
  refine mv_callVUv (pc := 14) (n := 1) (ci := 12) (C := R_Book) B (mK_ok sk sv) hNs rfl rfl (c_Book_need_x l hi _ _ len a1 a2 hQ) rfl (ma_goodc kc_Book_need) (B.2.2.2.1 _ k_2177) (B.2.2.2.1 _ k_2179) (B.2.2.2.1 _ ks_91) (B.2.2.2.1 _ k_13) ⟨by decide +kernel, by decide +kernel, by decide +kernel⟩ rfl d_Book_ranged_14 rfl (Nat.le_of_ble_eq_true rfl) ⟨by decide, by decide⟩ ⟨by decide, by decide⟩ ⟨by decide, by decide⟩ (mv_noH hno _) (fun τ9 g9 => Or.inr ⟨rfl, g9⟩) (fun σ14 h14 => ?_)
  obtain ⟨k14, d14, b1, b2, q14, b14⟩ := h14
  have n14 : mv_i σ14 74 38 = mv_i σ 74 38 := q14.1.1.1 _ _ (by omega) (by omega)
  refine mv_lload (pc := 17) B d_Book_ranged_17 1 rfl ?_
  refine mv_lload_n (pc := 19) B d_Book_ranged_19 rfl 3 rfl ?_
  refine mv_lload_n (pc := 20) B d_Book_ranged_20 rfl 4 rfl ?_
  refine mv_callSNi (pc := 21) (n := 3) B (mK_ok sk sv) hNs (c_Model_in l hi _ _ _ _) rfl (ma_goodc kc_Model_in) (va_Nw.use rfl (hNs.1 _ (List.mem_of_getElem? (i := 7) rfl))) (B.2.2.2.1 _ k_2208) (B.2.2.2.1 _ k_12) ⟨by decide +kernel, by decide +kernel, by decide +kernel⟩ rfl d_Book_ranged_21 rfl (Nat.le_of_ble_eq_true rfl) ⟨by decide, by decide⟩ ⟨by decide, by decide⟩ ⟨by decide, by decide⟩ (mv_noH hno _) (fun v21 σ21 h21 => ?_)
  obtain ⟨e21, z21⟩ := h21
  have e21 := e21.symm
  subst e21
  refine mv_if_eq (pc := 24) (tgt := 31) B d_Book_ranged_24 rfl (fun h24 => ?_) (fun h24 => ?_)
  · skip
    refine mv_aload_n (pc := 31) B d_Book_ranged_31 rfl 2 rfl ?_
    refine mv_iconst (pc := 32) (v := 3) B d_Book_ranged_32 (by decide) ?_
    refine mv_iload (pc := 33) B d_Book_ranged_33 0 rfl ?_
    refine mv_callVv (pc := 35) (n := 2) (ci := 12) (C := R_Book) B (mK_ok sk sv) hNs rfl rfl (c_Book_fault_x l hi _ _ _ (by decide)) rfl (ma_goodc kc_Book_fault) (B.2.2.2.1 _ k_2185) (B.2.2.2.1 _ k_2187) (B.2.2.2.1 _ ks_92) (B.2.2.2.1 _ k_13) ⟨by decide +kernel, by decide +kernel, by decide +kernel⟩ rfl d_Book_ranged_35 rfl (Nat.le_of_ble_eq_true rfl) ⟨by decide, by decide⟩ ⟨by decide, by decide⟩ ⟨by decide, by decide⟩ (mv_noH hno _) (fun σ35 h35 => ?_)
    obtain ⟨f35, n35, e35⟩ := h35
    refine mv_iconst (pc := 38) (v := -1) B d_Book_ranged_38 (by decide) ?_
    exact mv_iret (pc := 39) B hr rfl d_Book_ranged_39 (Nat.le_refl _) (Nat.le_refl _) (Or.inl ⟨_, rfl, k14, d14, ⟨b1, b2, q14.keep (fun k h1 h2 => e35 k (by omega)) f35.2.2.1, b14⟩, q14.1.1.tf.tr f35, fun z => absurd z n35, Or.inl ⟨rfl, n35⟩⟩)
  · skip
    refine mv_lload (pc := 27) B d_Book_ranged_27 1 rfl ?_
    refine mv_l2i (pc := 29) B d_Book_ranged_29 ?_
    exact mv_iret (pc := 30) B hr rfl d_Book_ranged_30 (Nat.le_refl _) (Nat.le_refl _) (Or.inl ⟨_, rfl, k14, d14, ⟨b1, b2, q14.re, b14⟩, q14.1.1.tf, fun z => n14 ▸ z, Or.inr (by have z := z21.resolve_left h24; exact l2i_rng z.2.1 z.2.2 (by omega) hy)⟩)
set_option maxHeartbeats 4000000 in
set_option maxRecDepth 100000 in
theorem c_Book_ranged_y (l : Launch) {dA : FieldType → ClassId} {D : va_G} {al : Nat → Nat} {ext : mv_Sh} {sk sv : Nat → Nat} (hi : mv_inj (mg dA D al ext)) (σ : mv_H) (x9 y9 : Int64) (hx : 1 ≤ x9.toInt) (hy : y9.toInt < 2147483648) (len a1 a2 : Nat) (hQ : Tq 108 len σ σ a1 a2) : mv_C l y_Book_ranged (Cond.code y_Book_ranged b_Book_ranged 8 (Option.some Jvm.ClassFile.FieldType.int) :: ma) ({ frames := 6, cells := 0, slots := 0, locals := 126 }) (mg dA D al ext) (mK sk sv) [.ref (al 108), .long x9, .long y9] σ (mv_Ui (fun v σ1 => mv_i σ 108 4 = 2 ∧ (mv_i σ 108 8).toInt ≤ 60 ∧ (∃ b1 b2, Tq 108 len σ1 σ1 b1 b2 ∧ a2 ≤ b1) ∧ TF 108 σ σ1 ∧ ((mv_i σ1 108 38).toInt ≤ 0 → (mv_i σ 108 38).toInt ≤ 0) ∧ ((v = -1 ∧ ¬ (mv_i σ1 108 38).toInt ≤ 0) ∨ (x9.toInt ≤ v.toInt ∧ v.toInt ≤ y9.toInt))) ("MachineLoomModel$Book$Wrong", al 141) (fun σ1 => TkB 108 σ σ1)) := by
  refine mv_C.ofV (cc := b_Book_ranged) (nL := 8) (ret := (Option.some Jvm.ClassFile.FieldType.int)) (by decide +kernel) rfl hi (Nat.le_of_ble_eq_true rfl) ?_
  intro p e s m below meth c B hNs hr hnm hno
  refine mv_aload_n (pc := 0) B d_Book_ranged_0 rfl 0 rfl ?_
  refine mv_getL (pc := 1) (ci := 12) (C := R_Book) (T := F_Book) (N := 65) B 9 rfl rfl (by decide) i_Book (B.2.2.2.1 _ k_1852) rfl d_Book_ranged_1 ?_
  refine mv_lstore (pc := 4) B d_Book_ranged_4 (by decide) rfl ?_
  refine mv_aload_n (pc := 6) B d_Book_ranged_6 rfl 1 rfl ?_
  refine mv_getI (pc := 7) (ci := 12) (C := R_Book) (T := F_Book) (N := 65) B 5 rfl rfl (by decide) i_Book (B.2.2.2.1 _ k_1848) rfl d_Book_ranged_7 ?_
  refine mv_istore (pc := 10) B d_Book_ranged_10 (by decide) rfl ?_
  refine mv_aload_n (pc := 12) B d_Book_ranged_12 rfl 2 rfl ?_
  refine mv_iconst (pc := 13) (v := 2) B d_Book_ranged_13 (by decide) ?_
  refine mv_callVUv (pc := 14) (n := 1) (ci := 12) (C := R_Book) B (mK_ok sk sv) hNs rfl rfl (c_Book_need_y l hi _ _ len a1 a2 hQ) rfl (ma_goodc kc_Book_need) (B.2.2.2.1 _ k_2177) (B.2.2.2.1 _ k_2179) (B.2.2.2.1 _ ks_91) (B.2.2.2.1 _ k_13) ⟨by decide +kernel, by decide +kernel, by decide +kernel⟩ rfl d_Book_ranged_14 rfl (Nat.le_of_ble_eq_true rfl) ⟨by decide, by decide⟩ ⟨by decide, by decide⟩ ⟨by decide, by decide⟩ (mv_noH hno _) (fun τ9 g9 => Or.inr ⟨rfl, g9⟩) (fun σ14 h14 => ?_)
  obtain ⟨k14, d14, b1, b2, q14, b14⟩ := h14
  have n14 : mv_i σ14 108 38 = mv_i σ 108 38 := q14.1.1.1 _ _ (by omega) (by omega)
  refine mv_lload (pc := 17) B d_Book_ranged_17 1 rfl ?_
  refine mv_lload_n (pc := 19) B d_Book_ranged_19 rfl 3 rfl ?_
  refine mv_lload_n (pc := 20) B d_Book_ranged_20 rfl 4 rfl ?_
  refine mv_callSNi (pc := 21) (n := 3) B (mK_ok sk sv) hNs (c_Model_in l hi _ _ _ _) rfl (ma_goodc kc_Model_in) (va_Nw.use rfl (hNs.1 _ (List.mem_of_getElem? (i := 7) rfl))) (B.2.2.2.1 _ k_2208) (B.2.2.2.1 _ k_12) ⟨by decide +kernel, by decide +kernel, by decide +kernel⟩ rfl d_Book_ranged_21 rfl (Nat.le_of_ble_eq_true rfl) ⟨by decide, by decide⟩ ⟨by decide, by decide⟩ ⟨by decide, by decide⟩ (mv_noH hno _) (fun v21 σ21 h21 => ?_)
  obtain ⟨e21, z21⟩ := h21
  have e21 := e21.symm
  subst e21
  refine mv_if_eq (pc := 24) (tgt := 31) B d_Book_ranged_24 rfl (fun h24 => ?_) (fun h24 => ?_)
  · skip
    refine mv_aload_n (pc := 31) B d_Book_ranged_31 rfl 2 rfl ?_
    refine mv_iconst (pc := 32) (v := 3) B d_Book_ranged_32 (by decide) ?_
    refine mv_iload (pc := 33) B d_Book_ranged_33 0 rfl ?_
    refine mv_callVv (pc := 35) (n := 2) (ci := 12) (C := R_Book) B (mK_ok sk sv) hNs rfl rfl (c_Book_fault_y l hi _ _ _ (by decide)) rfl (ma_goodc kc_Book_fault) (B.2.2.2.1 _ k_2185) (B.2.2.2.1 _ k_2187) (B.2.2.2.1 _ ks_92) (B.2.2.2.1 _ k_13) ⟨by decide +kernel, by decide +kernel, by decide +kernel⟩ rfl d_Book_ranged_35 rfl (Nat.le_of_ble_eq_true rfl) ⟨by decide, by decide⟩ ⟨by decide, by decide⟩ ⟨by decide, by decide⟩ (mv_noH hno _) (fun σ35 h35 => ?_)
    obtain ⟨f35, n35, e35⟩ := h35
    refine mv_iconst (pc := 38) (v := -1) B d_Book_ranged_38 (by decide) ?_
    exact mv_iret (pc := 39) B hr rfl d_Book_ranged_39 (Nat.le_refl _) (Nat.le_refl _) (Or.inl ⟨_, rfl, k14, d14, ⟨b1, b2, q14.keep (fun k h1 h2 => e35 k (by omega)) f35.2.2.1, b14⟩, q14.1.1.tf.tr f35, fun z => absurd z n35, Or.inl ⟨rfl, n35⟩⟩)
  · skip
    refine mv_lload (pc := 27) B d_Book_ranged_27 1 rfl ?_
    refine mv_l2i (pc := 29) B d_Book_ranged_29 ?_
    exact mv_iret (pc := 30) B hr rfl d_Book_ranged_30 (Nat.le_refl _) (Nat.le_refl _) (Or.inl ⟨_, rfl, k14, d14, ⟨b1, b2, q14.re, b14⟩, q14.1.1.tf, fun z => n14 ▸ z, Or.inr (by have z := z21.resolve_left h24; exact l2i_rng z.2.1 z.2.2 (by omega) hy)⟩)
