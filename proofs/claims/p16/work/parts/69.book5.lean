/-! the reference's Book: expressions -/
theorem PS.up {B len th d n a1 a2 : Nat} {σ : mv_H} (h : PS B len th d n a1 a2 σ) (hd : d ≤ 61) : (mv_i σ B 8 + 1).toInt = ((d + 1 : Nat) : Int) := by
  have := h.2.1
  rw [i32_inc (by omega)]
  omega
theorem PS.dn {B len th d n a1 a2 : Nat} {σ : mv_H} (h : PS B len th (d + 1) n a1 a2 σ) : (mv_i σ B 8 - 1).toInt = (d : Int) := by
  have := h.2.1
  rw [sub_one (by omega)]
  omega
theorem Tq.bn {B len a b : Nat} {σ τ : mv_H} (g : Tq B len σ τ a b) : mv_i τ B 38 = mv_i σ B 38 := g.1.1.1 _ _ (by omega) (by omega)
/-- good stretches of nodes -/
def XG (B th : Nat) (S : mv_H) (n : Nat) (L : List (Nat × Nat × Nat)) : Prop := ∀ r ∈ L, r.2.1 ≤ n ∧ ((mv_i S B 38).toInt ≤ 0 → XR B th S r.1 r.2.1 r.2.2)
theorem XG.xf {B th n n' : Nat} {S T : mv_H} {L : List (Nat × Nat × Nat)} (h : XG B th S n L) (f : XF B n S T) (hn : n ≤ n') (z : (mv_i T B 38).toInt ≤ 0 → (mv_i S B 38).toInt ≤ 0) : XG B th T n' L := fun r hr => ⟨Nat.le_trans (h r hr).1 hn, fun q => ((h r hr).2 (z q)).xf f (h r hr).1⟩
theorem XG.cons {B th n lo hi R : Nat} {S : mv_H} {L : List (Nat × Nat × Nat)} (h : XG B th S n L) (hn : hi ≤ n) (x : (mv_i S B 38).toInt ≤ 0 → XR B th S lo hi R) : XG B th S n ((lo, hi, R) :: L) := fun r hr => by
  rcases List.mem_cons.mp hr with e | e
  · subst e; exact ⟨hn, x⟩
  · exact h r e
theorem XG.at {B th n lo hi R : Nat} {S : mv_H} {L : List (Nat × Nat × Nat)} (h : XG B th S n L) (i : Nat) (e : L[i]? = some (lo, hi, R)) (z : (mv_i S B 38).toInt ≤ 0) : XR B th S lo hi R := (h _ (List.mem_of_getElem? e)).2 z
theorem XG.nil {B th n : Nat} {S : mv_H} : XG B th S n [] := fun _ h => nomatch h
/-- since σ: come to S, with good stretches behind -/
def XT (B len th : Nat) (σ : mv_H) (n a1 : Nat) (S : mv_H) (d n' b1 b2 : Nat) (L : List (Nat × Nat × Nat)) : Prop := XS B len th σ n a1 S d n' b1 b2 ∧ XG B th S n' L
section XTX
variable {B len th d n a1 n' b1 b2 : Nat} {σ S T : mv_H} {L : List (Nat × Nat × Nat)}
theorem XT.rf {a2 : Nat} (h : PS B len th d n a1 a2 σ) : XT B len th σ n a1 σ d n a1 a2 [] := ⟨XS.rf h, XG.nil⟩
theorem XT.pass {c1 c2 : Nat} (h : XT B len th σ n a1 S d n' b1 b2 L) (g : Tq B len S T c1 c2) (hb : b2 ≤ c1) : XT B len th σ n a1 T d n' c1 c2 L := ⟨h.1.pass g hb, h.2.xf g.1.1.tf.xf (Nat.le_refl _) (fun z => by rw [g.bn] at z; exact z)⟩
theorem XT.dep {d' : Nat} {v : Int32} (h : XT B len th σ n a1 S d n' b1 b2 L) (hv : v.toInt = d') : XT B len th σ n a1 (mv_si S B 8 v) d' n' b1 b2 L := ⟨h.1.dep hv, h.2.xf (XF.rf.si (Or.inl ⟨rfl, Or.inl ⟨by decide, by decide⟩⟩)) (Nat.le_refl _) (fun z => by rw [mv_si_o _ _ (by omega)] at z; exact z)⟩
theorem XT.ft (h : XT B len th σ n a1 S d n' b1 b2 L) (g : FT B S T) : XT B len th σ n a1 T d n' b1 b2 L := ⟨h.1.ft g, h.2.xf g.1.xf (Nat.le_refl _) g.2.2⟩
theorem XT.sub {d' n'' c1 c2 R : Nat} (h : XT B len th σ n a1 S d n' b1 b2 L) (g : XS B len th S n' b1 T d' n'' c1 c2) (x : (mv_i T B 38).toInt ≤ 0 → XR B th T n' n'' R) : XT B len th σ n a1 T d' n'' c1 c2 ((n', n'', R) :: L) := ⟨h.1.sub g, (h.2.xf g.2.1 g.2.2.1 g.2.2.2.2).cons (Nat.le_refl _) x⟩
/-- a new node that takes the stretches in -/
theorem XT.node {s x y z w : Int32} {lo R : Nat} (h : XT B len th σ n a1 S d n' b1 b2 L) (hb : n' + 1 + a1 ≤ n + b1) (hn : n ≤ a1) (hx : (mv_i S B 38).toInt ≤ 0 → XR B th (nd B S s x y z w) lo (n' + 1) R) : XT B len th σ n a1 (nd B S s x y z w) d (n' + 1) b1 b2 [(lo, n' + 1, R)] := ⟨h.1.nd hb hn, XG.nil.cons (Nat.le_refl _) (fun z => hx (by rw [nd_i (by omega)] at z; exact z))⟩
theorem XT.out {v : Int32} {R R' : Nat} (h : XT B len th σ n a1 S d n' b1 b2 L) (hv : v.toInt + 1 = n') (hn : n < n') (i : Nat) (e : L[i]? = some (n, n', R)) (hR : R ≤ R') : XO B len th d n a1 R' σ v S := ⟨n', b1, b2, h.1, hn, hv, fun z => (h.2.at i e z).up hR⟩
theorem XT.P (h : XT B len th σ n a1 S d n' b1 b2 L) : PS B len th d n' b1 b2 S := h.1.1
theorem XT.R (h : XT B len th σ n a1 S d n' b1 b2 L) : Br B (mv_r S) := h.1.1.1.1.2.1
theorem XT.le (h : XT B len th σ n a1 S d n' b1 b2 L) : n ≤ n' ∧ n' + a1 ≤ n + b1 ∧ n' ≤ b1 ∧ b1 ≤ b2 ∧ b2 ≤ len ∧ len ≤ 10240 ∧ (mv_i S B 48).toInt = n' ∧ (mv_i S B 8).toInt = d ∧ (mv_i S B 17).toInt = th := ⟨h.1.2.2.1, h.1.2.2.2.1, h.P.le.1, h.P.le.2.1, h.P.le.2.2.1, h.P.le.2.2.2, h.P.2.2.1, h.P.2.1, h.P.2.2.2.2.1⟩
end XTX
/-- a contract of a reader of expressions, by the depth that is left -/
def XK (l : Launch) (dA : FieldType → ClassId) (D : va_G) (al : Nat → Nat) (ext : mv_Sh) (sk sv : Nat → Nat) (B : Nat) (y : MethodName) (b : ByteArray) (nl : Nat) (args : List Value) (F Lc R f : Nat) : Prop := ∀ (σ : mv_H) (len th d n a1 a2 : Nat), d + f = 61 → PS B len th d n a1 a2 σ → mv_C l y (Cond.code y b nl (some .int) :: ma) { frames := F, cells := 0, slots := 0, locals := Lc } (mg dA D al ext) (mK sk sv) (.ref (al B) :: args) σ (mv_Ui (XO B len th d n a1 R σ) ("MachineLoomModel$Book$Wrong", al (B + 33)) (BF B σ))

def y_Book_levelOf : MethodName := ⟨"MachineLoomModel$Book", "levelOf", "(I)I"⟩
abbrev b_Book_levelOf : ByteArray := prog_15_method_29_code
theorem kc_Book_levelOf : Cond.code y_Book_levelOf b_Book_levelOf 1 (Option.some Jvm.ClassFile.FieldType.int) ∈ ma := ma_of (tb_10 _ (List.mem_of_getElem? (i := 160) rfl)) rfl
theorem d_Book_levelOf_0 : decode b_Book_levelOf 0 = .ok (.iload_n 0, 1) := by decide +kernel
theorem d_Book_levelOf_1 : decode b_Book_levelOf 1 = .ok (.lookupswitch (141) #[(37, 138), (38, 127), (42, 138), (43, 135), (45, 135), (47, 138), (60, 131), (94, 125), (124, 123), (256, 129), (257, 129), (258, 131), (259, 133), (260, 133)], 123) := by decide +kernel
theorem d_Book_levelOf_124 : decode b_Book_levelOf 124 = .ok (.iconst 0, 1) := by decide +kernel
theorem d_Book_levelOf_125 : decode b_Book_levelOf 125 = .ok (.ireturn, 1) := by decide +kernel
theorem d_Book_levelOf_126 : decode b_Book_levelOf 126 = .ok (.iconst 1, 1) := by decide +kernel
theorem d_Book_levelOf_127 : decode b_Book_levelOf 127 = .ok (.ireturn, 1) := by decide +kernel
theorem d_Book_levelOf_128 : decode b_Book_levelOf 128 = .ok (.iconst 2, 1) := by decide +kernel
theorem d_Book_levelOf_129 : decode b_Book_levelOf 129 = .ok (.ireturn, 1) := by decide +kernel
theorem d_Book_levelOf_130 : decode b_Book_levelOf 130 = .ok (.iconst 3, 1) := by decide +kernel
theorem d_Book_levelOf_131 : decode b_Book_levelOf 131 = .ok (.ireturn, 1) := by decide +kernel
theorem d_Book_levelOf_132 : decode b_Book_levelOf 132 = .ok (.iconst 4, 1) := by decide +kernel
theorem d_Book_levelOf_133 : decode b_Book_levelOf 133 = .ok (.ireturn, 1) := by decide +kernel
theorem d_Book_levelOf_134 : decode b_Book_levelOf 134 = .ok (.iconst 5, 1) := by decide +kernel
theorem d_Book_levelOf_135 : decode b_Book_levelOf 135 = .ok (.ireturn, 1) := by decide +kernel
theorem d_Book_levelOf_136 : decode b_Book_levelOf 136 = .ok (.bipush 6, 2) := by decide +kernel
theorem d_Book_levelOf_138 : decode b_Book_levelOf 138 = .ok (.ireturn, 1) := by decide +kernel
theorem d_Book_levelOf_139 : decode b_Book_levelOf 139 = .ok (.bipush 7, 2) := by decide +kernel
theorem d_Book_levelOf_141 : decode b_Book_levelOf 141 = .ok (.ireturn, 1) := by decide +kernel
theorem d_Book_levelOf_142 : decode b_Book_levelOf 142 = .ok (.iconst (-1), 1) := by decide +kernel
theorem d_Book_levelOf_143 : decode b_Book_levelOf 143 = .ok (.ireturn, 1) := by decide +kernel
set_option maxHeartbeats 4000000 in
set_option maxRecDepth 100000 in
theorem c_Book_levelOf (l : Launch) {dA : FieldType → ClassId} {D : va_G} {al : Nat → Nat} {ext : mv_Sh} {sk sv : Nat → Nat} (hi : mv_inj (mg dA D al ext)) (σ : mv_H) (x : Int32) : mv_C l y_Book_levelOf (Cond.code y_Book_levelOf b_Book_levelOf 1 (Option.some Jvm.ClassFile.FieldType.int) :: ma) ({ frames := 0, cells := 0, slots := 0, locals := 0 }) (mg dA D al ext) (mK sk sv) [.int x] σ (mv_Ri (fun v σ1 => σ1 = σ ∧ (v = -1 ∨ 33 ≤ x.toInt))) := by
  refine mv_C.ofV (cc := b_Book_levelOf) (nL := 1) (ret := (Option.some Jvm.ClassFile.FieldType.int)) (by decide +kernel) rfl hi (Nat.le_of_ble_eq_true rfl) ?_
  intro p e s m below meth c B hNs hr hnm hno
  refine mv_iload_n (pc := 0) B d_Book_levelOf_0 rfl 0 rfl ?_
  refine mv_lsw (pc := 1) B d_Book_levelOf_1 (by decide) (by decide) ?_
  refine ⟨fun h1 => ?_, fun h1n37 => ?_⟩
  · skip
    refine mv_bipush (pc := 139) (v := 7) B d_Book_levelOf_139 (by decide) ?_
    exact mv_iret (pc := 141) B hr rfl d_Book_levelOf_141 (Nat.le_refl _) (Nat.le_refl _) ⟨_, rfl, rfl, by first | exact Or.inl rfl | exact Or.inr (by omega)⟩
  refine ⟨fun h1 => ?_, fun h1n38 => ?_⟩
  · skip
    refine mv_iconst (pc := 128) (v := 2) B d_Book_levelOf_128 (by decide) ?_
    exact mv_iret (pc := 129) B hr rfl d_Book_levelOf_129 (Nat.le_refl _) (Nat.le_refl _) ⟨_, rfl, rfl, by first | exact Or.inl rfl | exact Or.inr (by omega)⟩
  refine ⟨fun h1 => ?_, fun h1n42 => ?_⟩
  · skip
    refine mv_bipush (pc := 139) (v := 7) B d_Book_levelOf_139 (by decide) ?_
    exact mv_iret (pc := 141) B hr rfl d_Book_levelOf_141 (Nat.le_refl _) (Nat.le_refl _) ⟨_, rfl, rfl, by first | exact Or.inl rfl | exact Or.inr (by omega)⟩
  refine ⟨fun h1 => ?_, fun h1n43 => ?_⟩
  · skip
    refine mv_bipush (pc := 136) (v := 6) B d_Book_levelOf_136 (by decide) ?_
    exact mv_iret (pc := 138) B hr rfl d_Book_levelOf_138 (Nat.le_refl _) (Nat.le_refl _) ⟨_, rfl, rfl, by first | exact Or.inl rfl | exact Or.inr (by omega)⟩
  refine ⟨fun h1 => ?_, fun h1n45 => ?_⟩
  · skip
    refine mv_bipush (pc := 136) (v := 6) B d_Book_levelOf_136 (by decide) ?_
    exact mv_iret (pc := 138) B hr rfl d_Book_levelOf_138 (Nat.le_refl _) (Nat.le_refl _) ⟨_, rfl, rfl, by first | exact Or.inl rfl | exact Or.inr (by omega)⟩
  refine ⟨fun h1 => ?_, fun h1n47 => ?_⟩
  · skip
    refine mv_bipush (pc := 139) (v := 7) B d_Book_levelOf_139 (by decide) ?_
    exact mv_iret (pc := 141) B hr rfl d_Book_levelOf_141 (Nat.le_refl _) (Nat.le_refl _) ⟨_, rfl, rfl, by first | exact Or.inl rfl | exact Or.inr (by omega)⟩
  refine ⟨fun h1 => ?_, fun h1n60 => ?_⟩
  · skip
    refine mv_iconst (pc := 132) (v := 4) B d_Book_levelOf_132 (by decide) ?_
    exact mv_iret (pc := 133) B hr rfl d_Book_levelOf_133 (Nat.le_refl _) (Nat.le_refl _) ⟨_, rfl, rfl, by first | exact Or.inl rfl | exact Or.inr (by omega)⟩
  refine ⟨fun h1 => ?_, fun h1n94 => ?_⟩
  · skip
    refine mv_iconst (pc := 126) (v := 1) B d_Book_levelOf_126 (by decide) ?_
    exact mv_iret (pc := 127) B hr rfl d_Book_levelOf_127 (Nat.le_refl _) (Nat.le_refl _) ⟨_, rfl, rfl, by first | exact Or.inl rfl | exact Or.inr (by omega)⟩
  refine ⟨fun h1 => ?_, fun h1n124 => ?_⟩
  · skip
    refine mv_iconst (pc := 124) (v := 0) B d_Book_levelOf_124 (by decide) ?_
    exact mv_iret (pc := 125) B hr rfl d_Book_levelOf_125 (Nat.le_refl _) (Nat.le_refl _) ⟨_, rfl, rfl, by first | exact Or.inl rfl | exact Or.inr (by omega)⟩
  refine ⟨fun h1 => ?_, fun h1n256 => ?_⟩
  · skip
    refine mv_iconst (pc := 130) (v := 3) B d_Book_levelOf_130 (by decide) ?_
    exact mv_iret (pc := 131) B hr rfl d_Book_levelOf_131 (Nat.le_refl _) (Nat.le_refl _) ⟨_, rfl, rfl, by first | exact Or.inl rfl | exact Or.inr (by omega)⟩
  refine ⟨fun h1 => ?_, fun h1n257 => ?_⟩
  · skip
    refine mv_iconst (pc := 130) (v := 3) B d_Book_levelOf_130 (by decide) ?_
    exact mv_iret (pc := 131) B hr rfl d_Book_levelOf_131 (Nat.le_refl _) (Nat.le_refl _) ⟨_, rfl, rfl, by first | exact Or.inl rfl | exact Or.inr (by omega)⟩
  refine ⟨fun h1 => ?_, fun h1n258 => ?_⟩
  · skip
    refine mv_iconst (pc := 132) (v := 4) B d_Book_levelOf_132 (by decide) ?_
    exact mv_iret (pc := 133) B hr rfl d_Book_levelOf_133 (Nat.le_refl _) (Nat.le_refl _) ⟨_, rfl, rfl, by first | exact Or.inl rfl | exact Or.inr (by omega)⟩
  refine ⟨fun h1 => ?_, fun h1n259 => ?_⟩
  · skip
    refine mv_iconst (pc := 134) (v := 5) B d_Book_levelOf_134 (by decide) ?_
    exact mv_iret (pc := 135) B hr rfl d_Book_levelOf_135 (Nat.le_refl _) (Nat.le_refl _) ⟨_, rfl, rfl, by first | exact Or.inl rfl | exact Or.inr (by omega)⟩
  refine ⟨fun h1 => ?_, fun h1n260 => ?_⟩
  · skip
    refine mv_iconst (pc := 134) (v := 5) B d_Book_levelOf_134 (by decide) ?_
    exact mv_iret (pc := 135) B hr rfl d_Book_levelOf_135 (Nat.le_refl _) (Nat.le_refl _) ⟨_, rfl, rfl, by first | exact Or.inl rfl | exact Or.inr (by omega)⟩
  show mv_V _ _ _ _ _ _ _ _ _ _ _ _ _ _ _ _ 142 _ _
  refine mv_iconst (pc := 142) (v := -1) B d_Book_levelOf_142 (by decide) ?_
  exact mv_iret (pc := 143) B hr rfl d_Book_levelOf_143 (Nat.le_refl _) (Nat.le_refl _) ⟨_, rfl, rfl, by first | exact Or.inl rfl | exact Or.inr (by omega)⟩
def y_Book_shifts : MethodName := ⟨"MachineLoomModel$Book", "shifts", "(I)Z"⟩
abbrev b_Book_shifts : ByteArray := prog_15_method_31_code
theorem kc_Book_shifts : Cond.code y_Book_shifts b_Book_shifts 1 (Option.some Jvm.ClassFile.FieldType.boolean) ∈ ma := ma_of (tb_10 _ (List.mem_of_getElem? (i := 134) rfl)) rfl
theorem d_Book_shifts_0 : decode b_Book_shifts 0 = .ok (.iload_n 0, 1) := by decide +kernel
theorem d_Book_shifts_1 : decode b_Book_shifts 1 = .ok (.sipush 259, 3) := by decide +kernel
theorem d_Book_shifts_4 : decode b_Book_shifts 4 = .ok (.if_icmp .eq (17), 3) := by decide +kernel
theorem d_Book_shifts_7 : decode b_Book_shifts 7 = .ok (.iload_n 0, 1) := by decide +kernel
theorem d_Book_shifts_8 : decode b_Book_shifts 8 = .ok (.sipush 260, 3) := by decide +kernel
theorem d_Book_shifts_11 : decode b_Book_shifts 11 = .ok (.if_icmp .eq (10), 3) := by decide +kernel
theorem d_Book_shifts_14 : decode b_Book_shifts 14 = .ok (.iload_n 0, 1) := by decide +kernel
theorem d_Book_shifts_15 : decode b_Book_shifts 15 = .ok (.sipush 1003, 3) := by decide +kernel
theorem d_Book_shifts_18 : decode b_Book_shifts 18 = .ok (.if_icmp .ne (7), 3) := by decide +kernel
theorem d_Book_shifts_21 : decode b_Book_shifts 21 = .ok (.iconst 1, 1) := by decide +kernel
theorem d_Book_shifts_22 : decode b_Book_shifts 22 = .ok (.goto (4), 3) := by decide +kernel
theorem d_Book_shifts_25 : decode b_Book_shifts 25 = .ok (.iconst 0, 1) := by decide +kernel
theorem d_Book_shifts_26 : decode b_Book_shifts 26 = .ok (.ireturn, 1) := by decide +kernel
set_option maxHeartbeats 4000000 in
set_option maxRecDepth 100000 in
theorem c_Book_shifts (l : Launch) {dA : FieldType → ClassId} {D : va_G} {al : Nat → Nat} {ext : mv_Sh} {sk sv : Nat → Nat} (hi : mv_inj (mg dA D al ext)) (σ : mv_H) (x : Int32) : mv_C l y_Book_shifts (Cond.code y_Book_shifts b_Book_shifts 1 (Option.some Jvm.ClassFile.FieldType.boolean) :: ma) ({ frames := 0, cells := 0, slots := 0, locals := 0 }) (mg dA D al ext) (mK sk sv) [.int x] σ (mv_Ri (fun v σ1 => σ1 = σ)) := by
  refine mv_C.ofV (cc := b_Book_shifts) (nL := 1) (ret := (Option.some Jvm.ClassFile.FieldType.boolean)) (by decide +kernel) rfl hi (Nat.le_of_ble_eq_true rfl) ?_
  intro p e s m below meth c B hNs hr hnm hno
  refine mv_iload_n (pc := 0) B d_Book_shifts_0 rfl 0 rfl ?_
  refine mv_sipush (pc := 1) (v := 259) B d_Book_shifts_1 (by decide) ?_
  refine mv_icmp_eq (pc := 4) (tgt := 21) B d_Book_shifts_4 rfl (fun h4 => ?_) (fun h4 => ?_)
  · skip
    refine mv_iconst (pc := 21) (v := 1) B d_Book_shifts_21 (by decide) ?_
    refine mv_goto (pc := 22) (tgt := 26) B d_Book_shifts_22 rfl ?_
    exact mv_iret (pc := 26) B hr rfl d_Book_shifts_26 (Nat.le_refl _) (Nat.le_refl _) ⟨_, rfl, rfl⟩
  · skip
    refine mv_iload_n (pc := 7) B d_Book_shifts_7 rfl 0 rfl ?_
    refine mv_sipush (pc := 8) (v := 260) B d_Book_shifts_8 (by decide) ?_
    refine mv_icmp_eq (pc := 11) (tgt := 21) B d_Book_shifts_11 rfl (fun h11 => ?_) (fun h11 => ?_)
    · skip
      refine mv_iconst (pc := 21) (v := 1) B d_Book_shifts_21 (by decide) ?_
      refine mv_goto (pc := 22) (tgt := 26) B d_Book_shifts_22 rfl ?_
      exact mv_iret (pc := 26) B hr rfl d_Book_shifts_26 (Nat.le_refl _) (Nat.le_refl _) ⟨_, rfl, rfl⟩
    · skip
      refine mv_iload_n (pc := 14) B d_Book_shifts_14 rfl 0 rfl ?_
      refine mv_sipush (pc := 15) (v := 1003) B d_Book_shifts_15 (by decide) ?_
      refine mv_icmp_ne (pc := 18) (tgt := 25) B d_Book_shifts_18 rfl (fun h18 => ?_) (fun h18 => ?_)
      · skip
        refine mv_iconst (pc := 25) (v := 0) B d_Book_shifts_25 (by decide) ?_
        exact mv_iret (pc := 26) B hr rfl d_Book_shifts_26 (Nat.le_refl _) (Nat.le_refl _) ⟨_, rfl, rfl⟩
      · skip
        refine mv_iconst (pc := 21) (v := 1) B d_Book_shifts_21 (by decide) ?_
        refine mv_goto (pc := 22) (tgt := 26) B d_Book_shifts_22 rfl ?_
        exact mv_iret (pc := 26) B hr rfl d_Book_shifts_26 (Nat.le_refl _) (Nat.le_refl _) ⟨_, rfl, rfl⟩
def y_Book_asks : MethodName := ⟨"MachineLoomModel$Book", "asks", "(I)Z"⟩
abbrev b_Book_asks : ByteArray := prog_15_method_32_code
theorem kc_Book_asks : Cond.code y_Book_asks b_Book_asks 1 (Option.some Jvm.ClassFile.FieldType.boolean) ∈ ma := ma_of (tb_10 _ (List.mem_of_getElem? (i := 137) rfl)) rfl
theorem d_Book_asks_0 : decode b_Book_asks 0 = .ok (.iload_n 0, 1) := by decide +kernel
theorem d_Book_asks_1 : decode b_Book_asks 1 = .ok (.sipush 256, 3) := by decide +kernel
theorem d_Book_asks_4 : decode b_Book_asks 4 = .ok (.if_icmp .eq (30), 3) := by decide +kernel
theorem d_Book_asks_7 : decode b_Book_asks 7 = .ok (.iload_n 0, 1) := by decide +kernel
theorem d_Book_asks_8 : decode b_Book_asks 8 = .ok (.sipush 257, 3) := by decide +kernel
theorem d_Book_asks_11 : decode b_Book_asks 11 = .ok (.if_icmp .eq (23), 3) := by decide +kernel
theorem d_Book_asks_14 : decode b_Book_asks 14 = .ok (.iload_n 0, 1) := by decide +kernel
theorem d_Book_asks_15 : decode b_Book_asks 15 = .ok (.bipush 60, 2) := by decide +kernel
theorem d_Book_asks_17 : decode b_Book_asks 17 = .ok (.if_icmp .eq (17), 3) := by decide +kernel
theorem d_Book_asks_20 : decode b_Book_asks 20 = .ok (.iload_n 0, 1) := by decide +kernel
theorem d_Book_asks_21 : decode b_Book_asks 21 = .ok (.sipush 258, 3) := by decide +kernel
theorem d_Book_asks_24 : decode b_Book_asks 24 = .ok (.if_icmp .eq (10), 3) := by decide +kernel
theorem d_Book_asks_27 : decode b_Book_asks 27 = .ok (.iload_n 0, 1) := by decide +kernel
theorem d_Book_asks_28 : decode b_Book_asks 28 = .ok (.sipush 1000, 3) := by decide +kernel
theorem d_Book_asks_31 : decode b_Book_asks 31 = .ok (.if_icmp .ne (7), 3) := by decide +kernel
theorem d_Book_asks_34 : decode b_Book_asks 34 = .ok (.iconst 1, 1) := by decide +kernel
theorem d_Book_asks_35 : decode b_Book_asks 35 = .ok (.goto (4), 3) := by decide +kernel
theorem d_Book_asks_38 : decode b_Book_asks 38 = .ok (.iconst 0, 1) := by decide +kernel
theorem d_Book_asks_39 : decode b_Book_asks 39 = .ok (.ireturn, 1) := by decide +kernel
set_option maxHeartbeats 4000000 in
set_option maxRecDepth 100000 in
theorem c_Book_asks (l : Launch) {dA : FieldType → ClassId} {D : va_G} {al : Nat → Nat} {ext : mv_Sh} {sk sv : Nat → Nat} (hi : mv_inj (mg dA D al ext)) (σ : mv_H) (x : Int32) : mv_C l y_Book_asks (Cond.code y_Book_asks b_Book_asks 1 (Option.some Jvm.ClassFile.FieldType.boolean) :: ma) ({ frames := 0, cells := 0, slots := 0, locals := 0 }) (mg dA D al ext) (mK sk sv) [.int x] σ (mv_Ri (fun v σ1 => σ1 = σ)) := by
  refine mv_C.ofV (cc := b_Book_asks) (nL := 1) (ret := (Option.some Jvm.ClassFile.FieldType.boolean)) (by decide +kernel) rfl hi (Nat.le_of_ble_eq_true rfl) ?_
  intro p e s m below meth c B hNs hr hnm hno
  refine mv_iload_n (pc := 0) B d_Book_asks_0 rfl 0 rfl ?_
  refine mv_sipush (pc := 1) (v := 256) B d_Book_asks_1 (by decide) ?_
  refine mv_icmp_eq (pc := 4) (tgt := 34) B d_Book_asks_4 rfl (fun h4 => ?_) (fun h4 => ?_)
  · skip
    refine mv_iconst (pc := 34) (v := 1) B d_Book_asks_34 (by decide) ?_
    refine mv_goto (pc := 35) (tgt := 39) B d_Book_asks_35 rfl ?_
    exact mv_iret (pc := 39) B hr rfl d_Book_asks_39 (Nat.le_refl _) (Nat.le_refl _) ⟨_, rfl, rfl⟩
  · skip
    refine mv_iload_n (pc := 7) B d_Book_asks_7 rfl 0 rfl ?_
    refine mv_sipush (pc := 8) (v := 257) B d_Book_asks_8 (by decide) ?_
    refine mv_icmp_eq (pc := 11) (tgt := 34) B d_Book_asks_11 rfl (fun h11 => ?_) (fun h11 => ?_)
    · skip
      refine mv_iconst (pc := 34) (v := 1) B d_Book_asks_34 (by decide) ?_
      refine mv_goto (pc := 35) (tgt := 39) B d_Book_asks_35 rfl ?_
      exact mv_iret (pc := 39) B hr rfl d_Book_asks_39 (Nat.le_refl _) (Nat.le_refl _) ⟨_, rfl, rfl⟩
    · skip
      refine mv_iload_n (pc := 14) B d_Book_asks_14 rfl 0 rfl ?_
      refine mv_bipush (pc := 15) (v := 60) B d_Book_asks_15 (by decide) ?_
      refine mv_icmp_eq (pc := 17) (tgt := 34) B d_Book_asks_17 rfl (fun h17 => ?_) (fun h17 => ?_)
      · skip
        refine mv_iconst (pc := 34) (v := 1) B d_Book_asks_34 (by decide) ?_
        refine mv_goto (pc := 35) (tgt := 39) B d_Book_asks_35 rfl ?_
        exact mv_iret (pc := 39) B hr rfl d_Book_asks_39 (Nat.le_refl _) (Nat.le_refl _) ⟨_, rfl, rfl⟩
      · skip
        refine mv_iload_n (pc := 20) B d_Book_asks_20 rfl 0 rfl ?_
        refine mv_sipush (pc := 21) (v := 258) B d_Book_asks_21 (by decide) ?_
        refine mv_icmp_eq (pc := 24) (tgt := 34) B d_Book_asks_24 rfl (fun h24 => ?_) (fun h24 => ?_)
        · skip
          refine mv_iconst (pc := 34) (v := 1) B d_Book_asks_34 (by decide) ?_
          refine mv_goto (pc := 35) (tgt := 39) B d_Book_asks_35 rfl ?_
          exact mv_iret (pc := 39) B hr rfl d_Book_asks_39 (Nat.le_refl _) (Nat.le_refl _) ⟨_, rfl, rfl⟩
        · skip
          refine mv_iload_n (pc := 27) B d_Book_asks_27 rfl 0 rfl ?_
          refine mv_sipush (pc := 28) (v := 1000) B d_Book_asks_28 (by decide) ?_
          refine mv_icmp_ne (pc := 31) (tgt := 38) B d_Book_asks_31 rfl (fun h31 => ?_) (fun h31 => ?_)
          · skip
            refine mv_iconst (pc := 38) (v := 0) B d_Book_asks_38 (by decide) ?_
            exact mv_iret (pc := 39) B hr rfl d_Book_asks_39 (Nat.le_refl _) (Nat.le_refl _) ⟨_, rfl, rfl⟩
          · skip
            refine mv_iconst (pc := 34) (v := 1) B d_Book_asks_34 (by decide) ?_
            refine mv_goto (pc := 35) (tgt := 39) B d_Book_asks_35 rfl ?_
            exact mv_iret (pc := 39) B hr rfl d_Book_asks_39 (Nat.le_refl _) (Nat.le_refl _) ⟨_, rfl, rfl⟩
def y_Book_chosen : MethodName := ⟨"MachineLoomModel$Book", "chosen", "(IIII)I"⟩
abbrev b_Book_chosen : ByteArray := prog_15_method_28_code
theorem kc_Book_chosen : Cond.code y_Book_chosen b_Book_chosen 7 (Option.some Jvm.ClassFile.FieldType.int) ∈ ma := ma_of (tb_10 _ (List.mem_of_getElem? (i := 164) rfl)) rfl
theorem k_2269 : (Jvm.Cond.methodLink "MachineLoomModel$Book" (271 : Nat) ({ cls := "MachineLoomModel$Book", name := "node", desc := "(IIIII)I" } : Jvm.MethodName)) ∈ ma := ma_of (tb_10 _ (List.mem_of_getElem? (i := 109) rfl)) rfl
theorem k_2271 : (Jvm.Cond.instanceMethod ({ cls := "MachineLoomModel$Book", name := "node", desc := "(IIIII)I" } : Jvm.MethodName)) ∈ ma := ma_of (tb_10 _ (List.mem_of_getElem? (i := 111) rfl)) rfl
theorem ks_110 : Cond.selects "MachineLoomModel$Book" ⟨"MachineLoomModel$Book", "node", "(IIIII)I"⟩ ⟨"MachineLoomModel$Book", "node", "(IIIII)I"⟩ ∈ ma := ma_sel 110 rfl rfl
theorem d_Book_chosen_0 : decode b_Book_chosen 0 = .ok (.aload_n 0, 1) := by decide +kernel
theorem d_Book_chosen_1 : decode b_Book_chosen 1 = .ok (.getfield 97, 3) := by decide +kernel
theorem d_Book_chosen_4 : decode b_Book_chosen 4 = .ok (.iload_n 2, 1) := by decide +kernel
theorem d_Book_chosen_5 : decode b_Book_chosen 5 = .ok (.iaload, 1) := by decide +kernel
theorem d_Book_chosen_6 : decode b_Book_chosen 6 = .ok (.ifCond .le (26), 3) := by decide +kernel
theorem d_Book_chosen_9 : decode b_Book_chosen 9 = .ok (.aload_n 0, 1) := by decide +kernel
theorem d_Book_chosen_10 : decode b_Book_chosen 10 = .ok (.getfield 97, 3) := by decide +kernel
theorem d_Book_chosen_13 : decode b_Book_chosen 13 = .ok (.iload_n 3, 1) := by decide +kernel
theorem d_Book_chosen_14 : decode b_Book_chosen 14 = .ok (.iaload, 1) := by decide +kernel
theorem d_Book_chosen_15 : decode b_Book_chosen 15 = .ok (.ifCond .le (17), 3) := by decide +kernel
theorem d_Book_chosen_18 : decode b_Book_chosen 18 = .ok (.aload_n 0, 1) := by decide +kernel
theorem d_Book_chosen_19 : decode b_Book_chosen 19 = .ok (.getfield 97, 3) := by decide +kernel
theorem d_Book_chosen_22 : decode b_Book_chosen 22 = .ok (.iload 4, 2) := by decide +kernel
theorem d_Book_chosen_24 : decode b_Book_chosen 24 = .ok (.iaload, 1) := by decide +kernel
theorem d_Book_chosen_25 : decode b_Book_chosen 25 = .ok (.ifCond .le (7), 3) := by decide +kernel
theorem d_Book_chosen_28 : decode b_Book_chosen 28 = .ok (.iconst 1, 1) := by decide +kernel
theorem d_Book_chosen_29 : decode b_Book_chosen 29 = .ok (.goto (4), 3) := by decide +kernel
theorem d_Book_chosen_32 : decode b_Book_chosen 32 = .ok (.iconst 0, 1) := by decide +kernel
theorem d_Book_chosen_33 : decode b_Book_chosen 33 = .ok (.istore 5, 2) := by decide +kernel
theorem d_Book_chosen_35 : decode b_Book_chosen 35 = .ok (.iload 5, 2) := by decide +kernel
theorem d_Book_chosen_37 : decode b_Book_chosen 37 = .ok (.ifCond .eq (33), 3) := by decide +kernel
theorem d_Book_chosen_40 : decode b_Book_chosen 40 = .ok (.aload_n 0, 1) := by decide +kernel
theorem d_Book_chosen_41 : decode b_Book_chosen 41 = .ok (.getfield 97, 3) := by decide +kernel
theorem d_Book_chosen_44 : decode b_Book_chosen 44 = .ok (.iload_n 2, 1) := by decide +kernel
theorem d_Book_chosen_45 : decode b_Book_chosen 45 = .ok (.iaload, 1) := by decide +kernel
theorem d_Book_chosen_46 : decode b_Book_chosen 46 = .ok (.iconst 1, 1) := by decide +kernel
theorem d_Book_chosen_47 : decode b_Book_chosen 47 = .ok (.if_icmp .ne (23), 3) := by decide +kernel
theorem d_Book_chosen_50 : decode b_Book_chosen 50 = .ok (.aload_n 0, 1) := by decide +kernel
theorem d_Book_chosen_51 : decode b_Book_chosen 51 = .ok (.getfield 97, 3) := by decide +kernel
theorem d_Book_chosen_54 : decode b_Book_chosen 54 = .ok (.iload_n 3, 1) := by decide +kernel
theorem d_Book_chosen_55 : decode b_Book_chosen 55 = .ok (.iaload, 1) := by decide +kernel
theorem d_Book_chosen_56 : decode b_Book_chosen 56 = .ok (.aload_n 0, 1) := by decide +kernel
theorem d_Book_chosen_57 : decode b_Book_chosen 57 = .ok (.getfield 97, 3) := by decide +kernel
theorem d_Book_chosen_60 : decode b_Book_chosen 60 = .ok (.iload 4, 2) := by decide +kernel
theorem d_Book_chosen_62 : decode b_Book_chosen 62 = .ok (.iaload, 1) := by decide +kernel
theorem d_Book_chosen_63 : decode b_Book_chosen 63 = .ok (.if_icmp .ne (7), 3) := by decide +kernel
theorem d_Book_chosen_66 : decode b_Book_chosen 66 = .ok (.iconst 1, 1) := by decide +kernel
theorem d_Book_chosen_67 : decode b_Book_chosen 67 = .ok (.goto (4), 3) := by decide +kernel
theorem d_Book_chosen_70 : decode b_Book_chosen 70 = .ok (.iconst 0, 1) := by decide +kernel
theorem d_Book_chosen_71 : decode b_Book_chosen 71 = .ok (.istore 6, 2) := by decide +kernel
theorem d_Book_chosen_73 : decode b_Book_chosen 73 = .ok (.iload 5, 2) := by decide +kernel
theorem d_Book_chosen_75 : decode b_Book_chosen 75 = .ok (.ifCond .eq (14), 3) := by decide +kernel
theorem d_Book_chosen_78 : decode b_Book_chosen 78 = .ok (.iload 6, 2) := by decide +kernel
theorem d_Book_chosen_80 : decode b_Book_chosen 80 = .ok (.ifCond .ne (9), 3) := by decide +kernel
theorem d_Book_chosen_83 : decode b_Book_chosen 83 = .ok (.aload_n 0, 1) := by decide +kernel
theorem d_Book_chosen_84 : decode b_Book_chosen 84 = .ok (.iconst 4, 1) := by decide +kernel
theorem d_Book_chosen_85 : decode b_Book_chosen 85 = .ok (.iload_n 1, 1) := by decide +kernel
theorem d_Book_chosen_86 : decode b_Book_chosen 86 = .ok (.invokevirtual 267, 3) := by decide +kernel
theorem d_Book_chosen_89 : decode b_Book_chosen 89 = .ok (.aload_n 0, 1) := by decide +kernel
theorem d_Book_chosen_90 : decode b_Book_chosen 90 = .ok (.bipush 9, 2) := by decide +kernel
theorem d_Book_chosen_92 : decode b_Book_chosen 92 = .ok (.iload_n 2, 1) := by decide +kernel
theorem d_Book_chosen_93 : decode b_Book_chosen 93 = .ok (.iload_n 3, 1) := by decide +kernel
theorem d_Book_chosen_94 : decode b_Book_chosen 94 = .ok (.iload 4, 2) := by decide +kernel
theorem d_Book_chosen_96 : decode b_Book_chosen 96 = .ok (.iload 6, 2) := by decide +kernel
theorem d_Book_chosen_98 : decode b_Book_chosen 98 = .ok (.ifCond .eq (12), 3) := by decide +kernel
theorem d_Book_chosen_101 : decode b_Book_chosen 101 = .ok (.aload_n 0, 1) := by decide +kernel
theorem d_Book_chosen_102 : decode b_Book_chosen 102 = .ok (.getfield 97, 3) := by decide +kernel
theorem d_Book_chosen_105 : decode b_Book_chosen 105 = .ok (.iload_n 3, 1) := by decide +kernel
theorem d_Book_chosen_106 : decode b_Book_chosen 106 = .ok (.iaload, 1) := by decide +kernel
theorem d_Book_chosen_107 : decode b_Book_chosen 107 = .ok (.goto (4), 3) := by decide +kernel
theorem d_Book_chosen_110 : decode b_Book_chosen 110 = .ok (.iconst 0, 1) := by decide +kernel
theorem d_Book_chosen_111 : decode b_Book_chosen 111 = .ok (.invokevirtual 271, 3) := by decide +kernel
theorem d_Book_chosen_114 : decode b_Book_chosen 114 = .ok (.ireturn, 1) := by decide +kernel
set_option maxHeartbeats 4000000 in
set_option maxRecDepth 100000 in
theorem c_Book_chosen_x (l : Launch) {dA : FieldType → ClassId} {D : va_G} {al : Nat → Nat} {ext : mv_Sh} {sk sv : Nat → Nat} (hi : mv_inj (mg dA D al ext)) (σ : mv_H) (p9 x9 y9 z9 : Int32) (hx : vp_in x9 33000) (hy : vp_in y9 33000) (hz : vp_in z9 33000) (hR : Br 74 (mv_r σ)) (n0 : 0 ≤ (mv_i σ 74 48).toInt) (n1 : (mv_i σ 74 48).toInt < 33000) : mv_C l y_Book_chosen (Cond.code y_Book_chosen b_Book_chosen 7 (Option.some Jvm.ClassFile.FieldType.int) :: ma) ({ frames := 1, cells := 0, slots := 0, locals := 26 }) (mg dA D al ext) (mK sk sv) [.ref (al 74), .int p9, .int x9, .int y9, .int z9] σ (mv_Ri (fun v σ1 => v = mv_i σ 74 48 ∧ ∃ τ w9, FT 74 σ τ ∧ σ1 = nd 74 τ 9 x9 y9 z9 w9)) := by
  refine mv_C.ofV (cc := b_Book_chosen) (nL := 7) (ret := (Option.some Jvm.ClassFile.FieldType.int)) (by decide +kernel) rfl hi (Nat.le_of_ble_eq_true rfl) ?_
  intro p e s m below meth c B hNs hr hnm hno
  have j89 : ∀ (τ : mv_H) (r9 : Int32) (hT : FT 74 σ τ), mv_V p l e ({ frames := 1, cells := 0, slots := 0, locals := 26 }) s m ([.ref (al 74), .int p9, .int x9, .int y9, .int z9] : List Value).toArray below meth c (mg dA D al ext) 7 0 0 (mv_Q (mg dA D al ext) below s 0 0 (mv_Ri (fun v σ1 => v = mv_i σ 74 48 ∧ ∃ τ w9, FT 74 σ τ ∧ σ1 = nd 74 τ 9 x9 y9 z9 w9))) τ 89 [(0, .ref (al 74)), (2, .int x9), (3, .int y9), (4, .int z9), (6, .int r9)] [] := by
    intro τ r9 hT
    have hR : Br 74 (mv_r τ) := by rw [hT.1.2.2.1]; exact hR
    have n9 := hT.2.1 48 (by omega)
    refine mv_aload_n (pc := 89) B d_Book_chosen_89 rfl 0 rfl ?_
    refine mv_bipush (pc := 90) (v := 9) B d_Book_chosen_90 (by decide) ?_
    refine mv_iload_n (pc := 92) B d_Book_chosen_92 rfl 1 rfl ?_
    refine mv_iload_n (pc := 93) B d_Book_chosen_93 rfl 2 rfl ?_
    refine mv_iload (pc := 94) B d_Book_chosen_94 3 rfl ?_
    refine mv_iload (pc := 96) B d_Book_chosen_96 4 rfl ?_
    refine mv_if_eq (pc := 98) (tgt := 110) B d_Book_chosen_98 rfl (fun h98 => ?_) (fun h98 => ?_)
    · skip
      refine mv_iconst (pc := 110) (v := 0) B d_Book_chosen_110 (by decide) ?_
      refine mv_callVi (pc := 111) (n := 5) (ci := 12) (C := R_Book) B (mK_ok sk sv) hNs rfl rfl (c_Book_node_x l hi _ _ _ _ _ _ hR (by rw [n9]; exact n0) (by rw [n9]; exact n1)) rfl (ma_goodc kc_Book_node) (B.2.2.2.1 _ k_2269) (B.2.2.2.1 _ k_2271) (B.2.2.2.1 _ ks_110) (B.2.2.2.1 _ k_13) ⟨by decide +kernel, by decide +kernel, by decide +kernel⟩ rfl d_Book_chosen_111 rfl (Nat.le_of_ble_eq_true rfl) ⟨by decide, by decide⟩ ⟨by decide, by decide⟩ ⟨by decide, by decide⟩ (mv_noH hno _) (fun v111 σ111 h111 => ?_)
      obtain ⟨e111, z111⟩ := h111
      exact mv_iret (pc := 114) B hr rfl d_Book_chosen_114 (Nat.le_refl _) (Nat.le_refl _) ⟨_, rfl, by rw [e111]; exact n9, τ, _, hT, z111⟩
    · skip
      refine mv_aload_n (pc := 101) B d_Book_chosen_101 rfl 0 rfl ?_
      refine mv_getR (pc := 102) (ci := 12) (C := R_Book) (T := F_Book) (N := 65) B 45 rfl rfl (by decide) i_Book (B.2.2.2.1 _ k_1894) rfl (hR.1 _ 45 _ rfl) d_Book_chosen_102 ?_
      refine mv_iload_n (pc := 105) B d_Book_chosen_105 rfl 2 rfl ?_
      refine mv_iald (pc := 106) B rfl hy d_Book_chosen_106 ?_
      refine mv_goto (pc := 107) (tgt := 111) B d_Book_chosen_107 rfl ?_
      refine mv_callVi (pc := 111) (n := 5) (ci := 12) (C := R_Book) B (mK_ok sk sv) hNs rfl rfl (c_Book_node_x l hi _ _ _ _ _ _ hR (by rw [n9]; exact n0) (by rw [n9]; exact n1)) rfl (ma_goodc kc_Book_node) (B.2.2.2.1 _ k_2269) (B.2.2.2.1 _ k_2271) (B.2.2.2.1 _ ks_110) (B.2.2.2.1 _ k_13) ⟨by decide +kernel, by decide +kernel, by decide +kernel⟩ rfl d_Book_chosen_111 rfl (Nat.le_of_ble_eq_true rfl) ⟨by decide, by decide⟩ ⟨by decide, by decide⟩ ⟨by decide, by decide⟩ (mv_noH hno _) (fun v111 σ111 h111 => ?_)
      obtain ⟨e111, z111⟩ := h111
      exact mv_iret (pc := 114) B hr rfl d_Book_chosen_114 (Nat.le_refl _) (Nat.le_refl _) ⟨_, rfl, by rw [e111]; exact n9, τ, _, hT, z111⟩
  have j71 : ∀ (k9 : Int32) (r9 : Int32) , mv_V p l e ({ frames := 1, cells := 0, slots := 0, locals := 26 }) s m ([.ref (al 74), .int p9, .int x9, .int y9, .int z9] : List Value).toArray below meth c (mg dA D al ext) 7 0 0 (mv_Q (mg dA D al ext) below s 0 0 (mv_Ri (fun v σ1 => v = mv_i σ 74 48 ∧ ∃ τ w9, FT 74 σ τ ∧ σ1 = nd 74 τ 9 x9 y9 z9 w9))) σ 71 [(0, .ref (al 74)), (1, .int p9), (2, .int x9), (3, .int y9), (4, .int z9), (5, .int k9)] [.int r9] := by
    intro k9 r9
    refine mv_istore (pc := 71) B d_Book_chosen_71 (by decide) rfl ?_
    refine mv_iload (pc := 73) B d_Book_chosen_73 6 rfl ?_
    refine mv_if_eq (pc := 75) (tgt := 89) B d_Book_chosen_75 rfl (fun h75 => ?_) (fun h75 => ?_)
    · skip
      refine mv_lpick [1, 3, 4, 5, 0] rfl ?_
      exact j89 _ _ (by first | exact FT.rf | exact FT.rf.of h86)
    · skip
      refine mv_iload (pc := 78) B d_Book_chosen_78 0 rfl ?_
      refine mv_if_ne (pc := 80) (tgt := 89) B d_Book_chosen_80 rfl (fun h80 => ?_) (fun h80 => ?_)
      · skip
        refine mv_lpick [1, 3, 4, 5, 0] rfl ?_
        exact j89 _ _ (by first | exact FT.rf | exact FT.rf.of h86)
      · skip
        refine mv_aload_n (pc := 83) B d_Book_chosen_83 rfl 1 rfl ?_
        refine mv_iconst (pc := 84) (v := 4) B d_Book_chosen_84 (by decide) ?_
        refine mv_iload_n (pc := 85) B d_Book_chosen_85 rfl 2 rfl ?_
        refine mv_callVv (pc := 86) (n := 2) (ci := 12) (C := R_Book) B (mK_ok sk sv) hNs rfl rfl (c_Book_fault_x l hi _ _ _ (by decide)) rfl (ma_goodc kc_Book_fault) (B.2.2.2.1 _ k_2185) (B.2.2.2.1 _ k_2187) (B.2.2.2.1 _ ks_92) (B.2.2.2.1 _ k_13) ⟨by decide +kernel, by decide +kernel, by decide +kernel⟩ rfl d_Book_chosen_86 rfl (Nat.le_of_ble_eq_true rfl) ⟨by decide, by decide⟩ ⟨by decide, by decide⟩ ⟨by decide, by decide⟩ (mv_noH hno _) (fun σ86 h86 => ?_)
        refine mv_lpick [1, 3, 4, 5, 0] rfl ?_
        exact j89 _ _ (by first | exact FT.rf | exact FT.rf.of h86)
  have j33 : ∀ (k9 : Int32) , mv_V p l e ({ frames := 1, cells := 0, slots := 0, locals := 26 }) s m ([.ref (al 74), .int p9, .int x9, .int y9, .int z9] : List Value).toArray below meth c (mg dA D al ext) 7 0 0 (mv_Q (mg dA D al ext) below s 0 0 (mv_Ri (fun v σ1 => v = mv_i σ 74 48 ∧ ∃ τ w9, FT 74 σ τ ∧ σ1 = nd 74 τ 9 x9 y9 z9 w9))) σ 33 [(0, .ref (al 74)), (1, .int p9), (2, .int x9), (3, .int y9), (4, .int z9)] [.int k9] := by
    intro k9
    refine mv_istore (pc := 33) B d_Book_chosen_33 (by decide) rfl ?_
    refine mv_iload (pc := 35) B d_Book_chosen_35 0 rfl ?_
    refine mv_if_eq (pc := 37) (tgt := 70) B d_Book_chosen_37 rfl (fun h37 => ?_) (fun h37 => ?_)
    · skip
      refine mv_iconst (pc := 70) (v := 0) B d_Book_chosen_70 (by decide) ?_
      refine mv_lpick [1, 2, 3, 4, 5, 0] rfl ?_
      exact j71 _ _
    · skip
      refine mv_aload_n (pc := 40) B d_Book_chosen_40 rfl 1 rfl ?_
      refine mv_getR (pc := 41) (ci := 12) (C := R_Book) (T := F_Book) (N := 65) B 45 rfl rfl (by decide) i_Book (B.2.2.2.1 _ k_1894) rfl (hR.1 _ 45 _ rfl) d_Book_chosen_41 ?_
      refine mv_iload_n (pc := 44) B d_Book_chosen_44 rfl 3 rfl ?_
      refine mv_iald (pc := 45) B rfl hx d_Book_chosen_45 ?_
      refine mv_iconst (pc := 46) (v := 1) B d_Book_chosen_46 (by decide) ?_
      refine mv_icmp_ne (pc := 47) (tgt := 70) B d_Book_chosen_47 rfl (fun h47 => ?_) (fun h47 => ?_)
      · skip
        refine mv_iconst (pc := 70) (v := 0) B d_Book_chosen_70 (by decide) ?_
        refine mv_lpick [1, 2, 3, 4, 5, 0] rfl ?_
        exact j71 _ _
      · skip
        refine mv_aload_n (pc := 50) B d_Book_chosen_50 rfl 1 rfl ?_
        refine mv_getR (pc := 51) (ci := 12) (C := R_Book) (T := F_Book) (N := 65) B 45 rfl rfl (by decide) i_Book (B.2.2.2.1 _ k_1894) rfl (hR.1 _ 45 _ rfl) d_Book_chosen_51 ?_
        refine mv_iload_n (pc := 54) B d_Book_chosen_54 rfl 4 rfl ?_
        refine mv_iald (pc := 55) B rfl (by assumption) d_Book_chosen_55 ?_
        refine mv_aload_n (pc := 56) B d_Book_chosen_56 rfl 1 rfl ?_
        refine mv_getR (pc := 57) (ci := 12) (C := R_Book) (T := F_Book) (N := 65) B 45 rfl rfl (by decide) i_Book (B.2.2.2.1 _ k_1894) rfl (hR.1 _ 45 _ rfl) d_Book_chosen_57 ?_
        refine mv_iload (pc := 60) B d_Book_chosen_60 5 rfl ?_
        refine mv_iald (pc := 62) B rfl hz d_Book_chosen_62 ?_
        refine mv_icmp_ne (pc := 63) (tgt := 70) B d_Book_chosen_63 rfl (fun h63 => ?_) (fun h63 => ?_)
        · skip
          refine mv_iconst (pc := 70) (v := 0) B d_Book_chosen_70 (by decide) ?_
          refine mv_lpick [1, 2, 3, 4, 5, 0] rfl ?_
          exact j71 _ _
        · skip
          refine mv_iconst (pc := 66) (v := 1) B d_Book_chosen_66 (by decide) ?_
          refine mv_goto (pc := 67) (tgt := 71) B d_Book_chosen_67 rfl ?_
          refine mv_lpick [1, 2, 3, 4, 5, 0] rfl ?_
          exact j71 _ _
  refine mv_aload_n (pc := 0) B d_Book_chosen_0 rfl 0 rfl ?_
  refine mv_getR (pc := 1) (ci := 12) (C := R_Book) (T := F_Book) (N := 65) B 45 rfl rfl (by decide) i_Book (B.2.2.2.1 _ k_1894) rfl (hR.1 _ 45 _ rfl) d_Book_chosen_1 ?_
  refine mv_iload_n (pc := 4) B d_Book_chosen_4 rfl 2 rfl ?_
  refine mv_iald (pc := 5) B rfl hx d_Book_chosen_5 ?_
  refine mv_if_le (pc := 6) (tgt := 32) B d_Book_chosen_6 rfl (fun h6 => ?_) (fun h6 => ?_)
  · skip
    refine mv_iconst (pc := 32) (v := 0) B d_Book_chosen_32 (by decide) ?_
    refine mv_lpick [0, 1, 2, 3, 4] rfl ?_
    exact j33 _
  · skip
    refine mv_aload_n (pc := 9) B d_Book_chosen_9 rfl 0 rfl ?_
    refine mv_getR (pc := 10) (ci := 12) (C := R_Book) (T := F_Book) (N := 65) B 45 rfl rfl (by decide) i_Book (B.2.2.2.1 _ k_1894) rfl (hR.1 _ 45 _ rfl) d_Book_chosen_10 ?_
    refine mv_iload_n (pc := 13) B d_Book_chosen_13 rfl 3 rfl ?_
    refine mv_iald (pc := 14) B rfl hy d_Book_chosen_14 ?_
    refine mv_if_le (pc := 15) (tgt := 32) B d_Book_chosen_15 rfl (fun h15 => ?_) (fun h15 => ?_)
    · skip
      refine mv_iconst (pc := 32) (v := 0) B d_Book_chosen_32 (by decide) ?_
      refine mv_lpick [0, 1, 2, 3, 4] rfl ?_
      exact j33 _
    · skip
      refine mv_aload_n (pc := 18) B d_Book_chosen_18 rfl 0 rfl ?_
      refine mv_getR (pc := 19) (ci := 12) (C := R_Book) (T := F_Book) (N := 65) B 45 rfl rfl (by decide) i_Book (B.2.2.2.1 _ k_1894) rfl (hR.1 _ 45 _ rfl) d_Book_chosen_19 ?_
      refine mv_iload (pc := 22) B d_Book_chosen_22 4 rfl ?_
      refine mv_iald (pc := 24) B rfl hz d_Book_chosen_24 ?_
      refine mv_if_le (pc := 25) (tgt := 32) B d_Book_chosen_25 rfl (fun h25 => ?_) (fun h25 => ?_)
      · skip
        refine mv_iconst (pc := 32) (v := 0) B d_Book_chosen_32 (by decide) ?_
        refine mv_lpick [0, 1, 2, 3, 4] rfl ?_
        exact j33 _
      · skip
        refine mv_iconst (pc := 28) (v := 1) B d_Book_chosen_28 (by decide) ?_
        refine mv_goto (pc := 29) (tgt := 33) B d_Book_chosen_29 rfl ?_
        refine mv_lpick [0, 1, 2, 3, 4] rfl ?_
        exact j33 _
set_option maxHeartbeats 4000000 in
set_option maxRecDepth 100000 in
theorem c_Book_chosen_y (l : Launch) {dA : FieldType → ClassId} {D : va_G} {al : Nat → Nat} {ext : mv_Sh} {sk sv : Nat → Nat} (hi : mv_inj (mg dA D al ext)) (σ : mv_H) (p9 x9 y9 z9 : Int32) (hx : vp_in x9 33000) (hy : vp_in y9 33000) (hz : vp_in z9 33000) (hR : Br 108 (mv_r σ)) (n0 : 0 ≤ (mv_i σ 108 48).toInt) (n1 : (mv_i σ 108 48).toInt < 33000) : mv_C l y_Book_chosen (Cond.code y_Book_chosen b_Book_chosen 7 (Option.some Jvm.ClassFile.FieldType.int) :: ma) ({ frames := 1, cells := 0, slots := 0, locals := 26 }) (mg dA D al ext) (mK sk sv) [.ref (al 108), .int p9, .int x9, .int y9, .int z9] σ (mv_Ri (fun v σ1 => v = mv_i σ 108 48 ∧ ∃ τ w9, FT 108 σ τ ∧ σ1 = nd 108 τ 9 x9 y9 z9 w9)) := by
  refine mv_C.ofV (cc := b_Book_chosen) (nL := 7) (ret := (Option.some Jvm.ClassFile.FieldType.int)) (by decide +kernel) rfl hi (Nat.le_of_ble_eq_true rfl) ?_
  intro p e s m below meth c B hNs hr hnm hno
  have j89 : ∀ (τ : mv_H) (r9 : Int32) (hT : FT 108 σ τ), mv_V p l e ({ frames := 1, cells := 0, slots := 0, locals := 26 }) s m ([.ref (al 108), .int p9, .int x9, .int y9, .int z9] : List Value).toArray below meth c (mg dA D al ext) 7 0 0 (mv_Q (mg dA D al ext) below s 0 0 (mv_Ri (fun v σ1 => v = mv_i σ 108 48 ∧ ∃ τ w9, FT 108 σ τ ∧ σ1 = nd 108 τ 9 x9 y9 z9 w9))) τ 89 [(0, .ref (al 108)), (2, .int x9), (3, .int y9), (4, .int z9), (6, .int r9)] [] := by
    intro τ r9 hT
    have hR : Br 108 (mv_r τ) := by rw [hT.1.2.2.1]; exact hR
    have n9 := hT.2.1 48 (by omega)
    refine mv_aload_n (pc := 89) B d_Book_chosen_89 rfl 0 rfl ?_
    refine mv_bipush (pc := 90) (v := 9) B d_Book_chosen_90 (by decide) ?_
    refine mv_iload_n (pc := 92) B d_Book_chosen_92 rfl 1 rfl ?_
    refine mv_iload_n (pc := 93) B d_Book_chosen_93 rfl 2 rfl ?_
    refine mv_iload (pc := 94) B d_Book_chosen_94 3 rfl ?_
    refine mv_iload (pc := 96) B d_Book_chosen_96 4 rfl ?_
    refine mv_if_eq (pc := 98) (tgt := 110) B d_Book_chosen_98 rfl (fun h98 => ?_) (fun h98 => ?_)
    · skip
      refine mv_iconst (pc := 110) (v := 0) B d_Book_chosen_110 (by decide) ?_
      refine mv_callVi (pc := 111) (n := 5) (ci := 12) (C := R_Book) B (mK_ok sk sv) hNs rfl rfl (c_Book_node_y l hi _ _ _ _ _ _ hR (by rw [n9]; exact n0) (by rw [n9]; exact n1)) rfl (ma_goodc kc_Book_node) (B.2.2.2.1 _ k_2269) (B.2.2.2.1 _ k_2271) (B.2.2.2.1 _ ks_110) (B.2.2.2.1 _ k_13) ⟨by decide +kernel, by decide +kernel, by decide +kernel⟩ rfl d_Book_chosen_111 rfl (Nat.le_of_ble_eq_true rfl) ⟨by decide, by decide⟩ ⟨by decide, by decide⟩ ⟨by decide, by decide⟩ (mv_noH hno _) (fun v111 σ111 h111 => ?_)
      obtain ⟨e111, z111⟩ := h111
      exact mv_iret (pc := 114) B hr rfl d_Book_chosen_114 (Nat.le_refl _) (Nat.le_refl _) ⟨_, rfl, by rw [e111]; exact n9, τ, _, hT, z111⟩
    · skip
      refine mv_aload_n (pc := 101) B d_Book_chosen_101 rfl 0 rfl ?_
      refine mv_getR (pc := 102) (ci := 12) (C := R_Book) (T := F_Book) (N := 65) B 45 rfl rfl (by decide) i_Book (B.2.2.2.1 _ k_1894) rfl (hR.1 _ 45 _ rfl) d_Book_chosen_102 ?_
      refine mv_iload_n (pc := 105) B d_Book_chosen_105 rfl 2 rfl ?_
      refine mv_iald (pc := 106) B rfl hy d_Book_chosen_106 ?_
      refine mv_goto (pc := 107) (tgt := 111) B d_Book_chosen_107 rfl ?_
      refine mv_callVi (pc := 111) (n := 5) (ci := 12) (C := R_Book) B (mK_ok sk sv) hNs rfl rfl (c_Book_node_y l hi _ _ _ _ _ _ hR (by rw [n9]; exact n0) (by rw [n9]; exact n1)) rfl (ma_goodc kc_Book_node) (B.2.2.2.1 _ k_2269) (B.2.2.2.1 _ k_2271) (B.2.2.2.1 _ ks_110) (B.2.2.2.1 _ k_13) ⟨by decide +kernel, by decide +kernel, by decide +kernel⟩ rfl d_Book_chosen_111 rfl (Nat.le_of_ble_eq_true rfl) ⟨by decide, by decide⟩ ⟨by decide, by decide⟩ ⟨by decide, by decide⟩ (mv_noH hno _) (fun v111 σ111 h111 => ?_)
      obtain ⟨e111, z111⟩ := h111
      exact mv_iret (pc := 114) B hr rfl d_Book_chosen_114 (Nat.le_refl _) (Nat.le_refl _) ⟨_, rfl, by rw [e111]; exact n9, τ, _, hT, z111⟩
  have j71 : ∀ (k9 : Int32) (r9 : Int32) , mv_V p l e ({ frames := 1, cells := 0, slots := 0, locals := 26 }) s m ([.ref (al 108), .int p9, .int x9, .int y9, .int z9] : List Value).toArray below meth c (mg dA D al ext) 7 0 0 (mv_Q (mg dA D al ext) below s 0 0 (mv_Ri (fun v σ1 => v = mv_i σ 108 48 ∧ ∃ τ w9, FT 108 σ τ ∧ σ1 = nd 108 τ 9 x9 y9 z9 w9))) σ 71 [(0, .ref (al 108)), (1, .int p9), (2, .int x9), (3, .int y9), (4, .int z9), (5, .int k9)] [.int r9] := by
    intro k9 r9
    refine mv_istore (pc := 71) B d_Book_chosen_71 (by decide) rfl ?_
    refine mv_iload (pc := 73) B d_Book_chosen_73 6 rfl ?_
    refine mv_if_eq (pc := 75) (tgt := 89) B d_Book_chosen_75 rfl (fun h75 => ?_) (fun h75 => ?_)
    · skip
      refine mv_lpick [1, 3, 4, 5, 0] rfl ?_
      exact j89 _ _ (by first | exact FT.rf | exact FT.rf.of h86)
    · skip
      refine mv_iload (pc := 78) B d_Book_chosen_78 0 rfl ?_
      refine mv_if_ne (pc := 80) (tgt := 89) B d_Book_chosen_80 rfl (fun h80 => ?_) (fun h80 => ?_)
      · skip
        refine mv_lpick [1, 3, 4, 5, 0] rfl ?_
        exact j89 _ _ (by first | exact FT.rf | exact FT.rf.of h86)
      · skip
        refine mv_aload_n (pc := 83) B d_Book_chosen_83 rfl 1 rfl ?_
        refine mv_iconst (pc := 84) (v := 4) B d_Book_chosen_84 (by decide) ?_
        refine mv_iload_n (pc := 85) B d_Book_chosen_85 rfl 2 rfl ?_
        refine mv_callVv (pc := 86) (n := 2) (ci := 12) (C := R_Book) B (mK_ok sk sv) hNs rfl rfl (c_Book_fault_y l hi _ _ _ (by decide)) rfl (ma_goodc kc_Book_fault) (B.2.2.2.1 _ k_2185) (B.2.2.2.1 _ k_2187) (B.2.2.2.1 _ ks_92) (B.2.2.2.1 _ k_13) ⟨by decide +kernel, by decide +kernel, by decide +kernel⟩ rfl d_Book_chosen_86 rfl (Nat.le_of_ble_eq_true rfl) ⟨by decide, by decide⟩ ⟨by decide, by decide⟩ ⟨by decide, by decide⟩ (mv_noH hno _) (fun σ86 h86 => ?_)
        refine mv_lpick [1, 3, 4, 5, 0] rfl ?_
        exact j89 _ _ (by first | exact FT.rf | exact FT.rf.of h86)
  have j33 : ∀ (k9 : Int32) , mv_V p l e ({ frames := 1, cells := 0, slots := 0, locals := 26 }) s m ([.ref (al 108), .int p9, .int x9, .int y9, .int z9] : List Value).toArray below meth c (mg dA D al ext) 7 0 0 (mv_Q (mg dA D al ext) below s 0 0 (mv_Ri (fun v σ1 => v = mv_i σ 108 48 ∧ ∃ τ w9, FT 108 σ τ ∧ σ1 = nd 108 τ 9 x9 y9 z9 w9))) σ 33 [(0, .ref (al 108)), (1, .int p9), (2, .int x9), (3, .int y9), (4, .int z9)] [.int k9] := by
    intro k9
    refine mv_istore (pc := 33) B d_Book_chosen_33 (by decide) rfl ?_
    refine mv_iload (pc := 35) B d_Book_chosen_35 0 rfl ?_
    refine mv_if_eq (pc := 37) (tgt := 70) B d_Book_chosen_37 rfl (fun h37 => ?_) (fun h37 => ?_)
    · skip
      refine mv_iconst (pc := 70) (v := 0) B d_Book_chosen_70 (by decide) ?_
      refine mv_lpick [1, 2, 3, 4, 5, 0] rfl ?_
      exact j71 _ _
    · skip
      refine mv_aload_n (pc := 40) B d_Book_chosen_40 rfl 1 rfl ?_
      refine mv_getR (pc := 41) (ci := 12) (C := R_Book) (T := F_Book) (N := 65) B 45 rfl rfl (by decide) i_Book (B.2.2.2.1 _ k_1894) rfl (hR.1 _ 45 _ rfl) d_Book_chosen_41 ?_
      refine mv_iload_n (pc := 44) B d_Book_chosen_44 rfl 3 rfl ?_
      refine mv_iald (pc := 45) B rfl hx d_Book_chosen_45 ?_
      refine mv_iconst (pc := 46) (v := 1) B d_Book_chosen_46 (by decide) ?_
      refine mv_icmp_ne (pc := 47) (tgt := 70) B d_Book_chosen_47 rfl (fun h47 => ?_) (fun h47 => ?_)
      · skip
        refine mv_iconst (pc := 70) (v := 0) B d_Book_chosen_70 (by decide) ?_
        refine mv_lpick [1, 2, 3, 4, 5, 0] rfl ?_
        exact j71 _ _
      · skip
        refine mv_aload_n (pc := 50) B d_Book_chosen_50 rfl 1 rfl ?_
        refine mv_getR (pc := 51) (ci := 12) (C := R_Book) (T := F_Book) (N := 65) B 45 rfl rfl (by decide) i_Book (B.2.2.2.1 _ k_1894) rfl (hR.1 _ 45 _ rfl) d_Book_chosen_51 ?_
        refine mv_iload_n (pc := 54) B d_Book_chosen_54 rfl 4 rfl ?_
        refine mv_iald (pc := 55) B rfl (by assumption) d_Book_chosen_55 ?_
        refine mv_aload_n (pc := 56) B d_Book_chosen_56 rfl 1 rfl ?_
        refine mv_getR (pc := 57) (ci := 12) (C := R_Book) (T := F_Book) (N := 65) B 45 rfl rfl (by decide) i_Book (B.2.2.2.1 _ k_1894) rfl (hR.1 _ 45 _ rfl) d_Book_chosen_57 ?_
        refine mv_iload (pc := 60) B d_Book_chosen_60 5 rfl ?_
        refine mv_iald (pc := 62) B rfl hz d_Book_chosen_62 ?_
        refine mv_icmp_ne (pc := 63) (tgt := 70) B d_Book_chosen_63 rfl (fun h63 => ?_) (fun h63 => ?_)
        · skip
          refine mv_iconst (pc := 70) (v := 0) B d_Book_chosen_70 (by decide) ?_
          refine mv_lpick [1, 2, 3, 4, 5, 0] rfl ?_
          exact j71 _ _
        · skip
          refine mv_iconst (pc := 66) (v := 1) B d_Book_chosen_66 (by decide) ?_
          refine mv_goto (pc := 67) (tgt := 71) B d_Book_chosen_67 rfl ?_
          refine mv_lpick [1, 2, 3, 4, 5, 0] rfl ?_
          exact j71 _ _
  refine mv_aload_n (pc := 0) B d_Book_chosen_0 rfl 0 rfl ?_
  refine mv_getR (pc := 1) (ci := 12) (C := R_Book) (T := F_Book) (N := 65) B 45 rfl rfl (by decide) i_Book (B.2.2.2.1 _ k_1894) rfl (hR.1 _ 45 _ rfl) d_Book_chosen_1 ?_
  refine mv_iload_n (pc := 4) B d_Book_chosen_4 rfl 2 rfl ?_
  refine mv_iald (pc := 5) B rfl hx d_Book_chosen_5 ?_
  refine mv_if_le (pc := 6) (tgt := 32) B d_Book_chosen_6 rfl (fun h6 => ?_) (fun h6 => ?_)
  · skip
    refine mv_iconst (pc := 32) (v := 0) B d_Book_chosen_32 (by decide) ?_
    refine mv_lpick [0, 1, 2, 3, 4] rfl ?_
    exact j33 _
  · skip
    refine mv_aload_n (pc := 9) B d_Book_chosen_9 rfl 0 rfl ?_
    refine mv_getR (pc := 10) (ci := 12) (C := R_Book) (T := F_Book) (N := 65) B 45 rfl rfl (by decide) i_Book (B.2.2.2.1 _ k_1894) rfl (hR.1 _ 45 _ rfl) d_Book_chosen_10 ?_
    refine mv_iload_n (pc := 13) B d_Book_chosen_13 rfl 3 rfl ?_
    refine mv_iald (pc := 14) B rfl hy d_Book_chosen_14 ?_
    refine mv_if_le (pc := 15) (tgt := 32) B d_Book_chosen_15 rfl (fun h15 => ?_) (fun h15 => ?_)
    · skip
      refine mv_iconst (pc := 32) (v := 0) B d_Book_chosen_32 (by decide) ?_
      refine mv_lpick [0, 1, 2, 3, 4] rfl ?_
      exact j33 _
    · skip
      refine mv_aload_n (pc := 18) B d_Book_chosen_18 rfl 0 rfl ?_
      refine mv_getR (pc := 19) (ci := 12) (C := R_Book) (T := F_Book) (N := 65) B 45 rfl rfl (by decide) i_Book (B.2.2.2.1 _ k_1894) rfl (hR.1 _ 45 _ rfl) d_Book_chosen_19 ?_
      refine mv_iload (pc := 22) B d_Book_chosen_22 4 rfl ?_
      refine mv_iald (pc := 24) B rfl hz d_Book_chosen_24 ?_
      refine mv_if_le (pc := 25) (tgt := 32) B d_Book_chosen_25 rfl (fun h25 => ?_) (fun h25 => ?_)
      · skip
        refine mv_iconst (pc := 32) (v := 0) B d_Book_chosen_32 (by decide) ?_
        refine mv_lpick [0, 1, 2, 3, 4] rfl ?_
        exact j33 _
      · skip
        refine mv_iconst (pc := 28) (v := 1) B d_Book_chosen_28 (by decide) ?_
        refine mv_goto (pc := 29) (tgt := 33) B d_Book_chosen_29 rfl ?_
        refine mv_lpick [0, 1, 2, 3, 4] rfl ?_
        exact j33 _
def y_Book_two : MethodName := ⟨"MachineLoomModel$Book", "two", "(IIII)I"⟩
abbrev b_Book_two : ByteArray := prog_15_method_33_code
theorem kc_Book_two : Cond.code y_Book_two b_Book_two 8 (Option.some Jvm.ClassFile.FieldType.int) ∈ ma := ma_of (tb_10 _ (List.mem_of_getElem? (i := 131) rfl)) rfl
theorem k_2295 : (Jvm.Cond.methodLink "MachineLoomModel$Book" (287 : Nat) ({ cls := "MachineLoomModel$Book", name := "asks", desc := "(I)Z" } : Jvm.MethodName)) ∈ ma := ma_of (tb_10 _ (List.mem_of_getElem? (i := 135) rfl)) rfl
theorem k_2296 : (Jvm.Cond.static ({ cls := "MachineLoomModel$Book", name := "asks", desc := "(I)Z" } : Jvm.MethodName)) ∈ ma := ma_of (tb_10 _ (List.mem_of_getElem? (i := 136) rfl)) rfl
theorem k_2292 : (Jvm.Cond.methodLink "MachineLoomModel$Book" (284 : Nat) ({ cls := "MachineLoomModel$Book", name := "shifts", desc := "(I)Z" } : Jvm.MethodName)) ∈ ma := ma_of (tb_10 _ (List.mem_of_getElem? (i := 132) rfl)) rfl
theorem k_2293 : (Jvm.Cond.static ({ cls := "MachineLoomModel$Book", name := "shifts", desc := "(I)Z" } : Jvm.MethodName)) ∈ ma := ma_of (tb_10 _ (List.mem_of_getElem? (i := 133) rfl)) rfl
theorem d_Book_two_0 : decode b_Book_two 0 = .ok (.aload_n 0, 1) := by decide +kernel
theorem d_Book_two_1 : decode b_Book_two 1 = .ok (.getfield 97, 3) := by decide +kernel
theorem d_Book_two_4 : decode b_Book_two 4 = .ok (.iload_n 3, 1) := by decide +kernel
theorem d_Book_two_5 : decode b_Book_two 5 = .ok (.iaload, 1) := by decide +kernel
theorem d_Book_two_6 : decode b_Book_two 6 = .ok (.ifCond .le (17), 3) := by decide +kernel
theorem d_Book_two_9 : decode b_Book_two 9 = .ok (.aload_n 0, 1) := by decide +kernel
theorem d_Book_two_10 : decode b_Book_two 10 = .ok (.getfield 97, 3) := by decide +kernel
theorem d_Book_two_13 : decode b_Book_two 13 = .ok (.iload 4, 2) := by decide +kernel
theorem d_Book_two_15 : decode b_Book_two 15 = .ok (.iaload, 1) := by decide +kernel
theorem d_Book_two_16 : decode b_Book_two 16 = .ok (.ifCond .le (7), 3) := by decide +kernel
theorem d_Book_two_19 : decode b_Book_two 19 = .ok (.iconst 1, 1) := by decide +kernel
theorem d_Book_two_20 : decode b_Book_two 20 = .ok (.goto (4), 3) := by decide +kernel
theorem d_Book_two_23 : decode b_Book_two 23 = .ok (.iconst 0, 1) := by decide +kernel
theorem d_Book_two_24 : decode b_Book_two 24 = .ok (.istore 5, 2) := by decide +kernel
theorem d_Book_two_26 : decode b_Book_two 26 = .ok (.iload 5, 2) := by decide +kernel
theorem d_Book_two_28 : decode b_Book_two 28 = .ok (.ifCond .eq (30), 3) := by decide +kernel
theorem d_Book_two_31 : decode b_Book_two 31 = .ok (.iload_n 1, 1) := by decide +kernel
theorem d_Book_two_32 : decode b_Book_two 32 = .ok (.invokestatic 284, 3) := by decide +kernel
theorem d_Book_two_35 : decode b_Book_two 35 = .ok (.ifCond .ne (19), 3) := by decide +kernel
theorem d_Book_two_38 : decode b_Book_two 38 = .ok (.aload_n 0, 1) := by decide +kernel
theorem d_Book_two_39 : decode b_Book_two 39 = .ok (.getfield 97, 3) := by decide +kernel
theorem d_Book_two_42 : decode b_Book_two 42 = .ok (.iload_n 3, 1) := by decide +kernel
theorem d_Book_two_43 : decode b_Book_two 43 = .ok (.iaload, 1) := by decide +kernel
theorem d_Book_two_44 : decode b_Book_two 44 = .ok (.aload_n 0, 1) := by decide +kernel
theorem d_Book_two_45 : decode b_Book_two 45 = .ok (.getfield 97, 3) := by decide +kernel
theorem d_Book_two_48 : decode b_Book_two 48 = .ok (.iload 4, 2) := by decide +kernel
theorem d_Book_two_50 : decode b_Book_two 50 = .ok (.iaload, 1) := by decide +kernel
theorem d_Book_two_51 : decode b_Book_two 51 = .ok (.if_icmp .ne (7), 3) := by decide +kernel
theorem d_Book_two_54 : decode b_Book_two 54 = .ok (.iconst 1, 1) := by decide +kernel
theorem d_Book_two_55 : decode b_Book_two 55 = .ok (.goto (4), 3) := by decide +kernel
theorem d_Book_two_58 : decode b_Book_two 58 = .ok (.iconst 0, 1) := by decide +kernel
theorem d_Book_two_59 : decode b_Book_two 59 = .ok (.istore 6, 2) := by decide +kernel
theorem d_Book_two_61 : decode b_Book_two 61 = .ok (.iload 5, 2) := by decide +kernel
theorem d_Book_two_63 : decode b_Book_two 63 = .ok (.ifCond .eq (14), 3) := by decide +kernel
theorem d_Book_two_66 : decode b_Book_two 66 = .ok (.iload 6, 2) := by decide +kernel
theorem d_Book_two_68 : decode b_Book_two 68 = .ok (.ifCond .ne (9), 3) := by decide +kernel
theorem d_Book_two_71 : decode b_Book_two 71 = .ok (.aload_n 0, 1) := by decide +kernel
theorem d_Book_two_72 : decode b_Book_two 72 = .ok (.iconst 4, 1) := by decide +kernel
theorem d_Book_two_73 : decode b_Book_two 73 = .ok (.iload_n 2, 1) := by decide +kernel
theorem d_Book_two_74 : decode b_Book_two 74 = .ok (.invokevirtual 267, 3) := by decide +kernel
theorem d_Book_two_77 : decode b_Book_two 77 = .ok (.aload_n 0, 1) := by decide +kernel
theorem d_Book_two_78 : decode b_Book_two 78 = .ok (.bipush 7, 2) := by decide +kernel
theorem d_Book_two_80 : decode b_Book_two 80 = .ok (.iload_n 3, 1) := by decide +kernel
theorem d_Book_two_81 : decode b_Book_two 81 = .ok (.iload 4, 2) := by decide +kernel
theorem d_Book_two_83 : decode b_Book_two 83 = .ok (.iload_n 1, 1) := by decide +kernel
theorem d_Book_two_84 : decode b_Book_two 84 = .ok (.iload 6, 2) := by decide +kernel
theorem d_Book_two_86 : decode b_Book_two 86 = .ok (.ifCond .ne (7), 3) := by decide +kernel
theorem d_Book_two_89 : decode b_Book_two 89 = .ok (.iconst 0, 1) := by decide +kernel
theorem d_Book_two_90 : decode b_Book_two 90 = .ok (.goto (20), 3) := by decide +kernel
theorem d_Book_two_93 : decode b_Book_two 93 = .ok (.iload_n 1, 1) := by decide +kernel
theorem d_Book_two_94 : decode b_Book_two 94 = .ok (.invokestatic 287, 3) := by decide +kernel
theorem d_Book_two_97 : decode b_Book_two 97 = .ok (.ifCond .eq (7), 3) := by decide +kernel
theorem d_Book_two_100 : decode b_Book_two 100 = .ok (.iconst 1, 1) := by decide +kernel
theorem d_Book_two_101 : decode b_Book_two 101 = .ok (.goto (9), 3) := by decide +kernel
theorem d_Book_two_104 : decode b_Book_two 104 = .ok (.aload_n 0, 1) := by decide +kernel
theorem d_Book_two_105 : decode b_Book_two 105 = .ok (.getfield 97, 3) := by decide +kernel
theorem d_Book_two_108 : decode b_Book_two 108 = .ok (.iload_n 3, 1) := by decide +kernel
theorem d_Book_two_109 : decode b_Book_two 109 = .ok (.iaload, 1) := by decide +kernel
theorem d_Book_two_110 : decode b_Book_two 110 = .ok (.invokevirtual 271, 3) := by decide +kernel
theorem d_Book_two_113 : decode b_Book_two 113 = .ok (.istore 7, 2) := by decide +kernel
theorem d_Book_two_115 : decode b_Book_two 115 = .ok (.iload 7, 2) := by decide +kernel
theorem d_Book_two_117 : decode b_Book_two 117 = .ok (.ireturn, 1) := by decide +kernel
set_option maxHeartbeats 4000000 in
set_option maxRecDepth 100000 in
theorem c_Book_two_x (l : Launch) {dA : FieldType → ClassId} {D : va_G} {al : Nat → Nat} {ext : mv_Sh} {sk sv : Nat → Nat} (hi : mv_inj (mg dA D al ext)) (σ : mv_H) (o9 p9 x9 y9 : Int32) (hx : vp_in x9 33000) (hy : vp_in y9 33000) (hR : Br 74 (mv_r σ)) (n0 : 0 ≤ (mv_i σ 74 48).toInt) (n1 : (mv_i σ 74 48).toInt < 33000) : mv_C l y_Book_two (Cond.code y_Book_two b_Book_two 8 (Option.some Jvm.ClassFile.FieldType.int) :: ma) ({ frames := 1, cells := 0, slots := 0, locals := 26 }) (mg dA D al ext) (mK sk sv) [.ref (al 74), .int o9, .int p9, .int x9, .int y9] σ (mv_Ri (fun v σ1 => v = mv_i σ 74 48 ∧ ∃ τ w9, FT 74 σ τ ∧ σ1 = nd 74 τ 7 x9 y9 o9 w9)) := by
  refine mv_C.ofV (cc := b_Book_two) (nL := 8) (ret := (Option.some Jvm.ClassFile.FieldType.int)) (by decide +kernel) rfl hi (Nat.le_of_ble_eq_true rfl) ?_
  intro p e s m below meth c B hNs hr hnm hno
  have j77 : ∀ (τ : mv_H) (r9 : Int32) (hT : FT 74 σ τ), mv_V p l e ({ frames := 1, cells := 0, slots := 0, locals := 26 }) s m ([.ref (al 74), .int o9, .int p9, .int x9, .int y9] : List Value).toArray below meth c (mg dA D al ext) 8 0 0 (mv_Q (mg dA D al ext) below s 0 0 (mv_Ri (fun v σ1 => v = mv_i σ 74 48 ∧ ∃ τ w9, FT 74 σ τ ∧ σ1 = nd 74 τ 7 x9 y9 o9 w9))) τ 77 [(0, .ref (al 74)), (1, .int o9), (3, .int x9), (4, .int y9), (6, .int r9)] [] := by
    intro τ r9 hT
    have hR : Br 74 (mv_r τ) := by rw [hT.1.2.2.1]; exact hR
    have n9 := hT.2.1 48 (by omega)
    refine mv_aload_n (pc := 77) B d_Book_two_77 rfl 0 rfl ?_
    refine mv_bipush (pc := 78) (v := 7) B d_Book_two_78 (by decide) ?_
    refine mv_iload_n (pc := 80) B d_Book_two_80 rfl 2 rfl ?_
    refine mv_iload (pc := 81) B d_Book_two_81 3 rfl ?_
    refine mv_iload_n (pc := 83) B d_Book_two_83 rfl 1 rfl ?_
    refine mv_iload (pc := 84) B d_Book_two_84 4 rfl ?_
    refine mv_if_ne (pc := 86) (tgt := 93) B d_Book_two_86 rfl (fun h86 => ?_) (fun h86 => ?_)
    · skip
      refine mv_iload_n (pc := 93) B d_Book_two_93 rfl 1 rfl ?_
      refine mv_callSi (pc := 94) (n := 1) B (mK_ok sk sv) hNs (c_Book_asks l hi _ _) rfl (ma_goodc kc_Book_asks) (B.2.2.2.1 _ k_2295) (B.2.2.2.1 _ k_2296) (B.2.2.2.1 _ k_13) ⟨by decide +kernel, by decide +kernel, by decide +kernel⟩ rfl d_Book_two_94 rfl (Nat.le_of_ble_eq_true rfl) ⟨by decide, by decide⟩ ⟨by decide, by decide⟩ ⟨by decide, by decide⟩ (mv_noH hno _) (fun v94 σ94 h94 => ?_)
      have e94 := h94.symm
      subst e94
      refine mv_if_eq (pc := 97) (tgt := 104) B d_Book_two_97 rfl (fun h97 => ?_) (fun h97 => ?_)
      · skip
        refine mv_aload_n (pc := 104) B d_Book_two_104 rfl 0 rfl ?_
        refine mv_getR (pc := 105) (ci := 12) (C := R_Book) (T := F_Book) (N := 65) B 45 rfl rfl (by decide) i_Book (B.2.2.2.1 _ k_1894) rfl (hR.1 _ 45 _ rfl) d_Book_two_105 ?_
        refine mv_iload_n (pc := 108) B d_Book_two_108 rfl 2 rfl ?_
        refine mv_iald (pc := 109) B rfl hx d_Book_two_109 ?_
        refine mv_callVi (pc := 110) (n := 5) (ci := 12) (C := R_Book) B (mK_ok sk sv) hNs rfl rfl (c_Book_node_x l hi _ _ _ _ _ _ hR (by rw [n9]; exact n0) (by rw [n9]; exact n1)) rfl (ma_goodc kc_Book_node) (B.2.2.2.1 _ k_2269) (B.2.2.2.1 _ k_2271) (B.2.2.2.1 _ ks_110) (B.2.2.2.1 _ k_13) ⟨by decide +kernel, by decide +kernel, by decide +kernel⟩ rfl d_Book_two_110 rfl (Nat.le_of_ble_eq_true rfl) ⟨by decide, by decide⟩ ⟨by decide, by decide⟩ ⟨by decide, by decide⟩ (mv_noH hno _) (fun v110 σ110 h110 => ?_)
        obtain ⟨e110, z110⟩ := h110
        refine mv_istore (pc := 113) B d_Book_two_113 (by decide) rfl ?_
        refine mv_iload (pc := 115) B d_Book_two_115 0 rfl ?_
        exact mv_iret (pc := 117) B hr rfl d_Book_two_117 (Nat.le_refl _) (Nat.le_refl _) ⟨_, rfl, by rw [e110]; exact n9, τ, _, hT, z110⟩
      · skip
        refine mv_iconst (pc := 100) (v := 1) B d_Book_two_100 (by decide) ?_
        refine mv_goto (pc := 101) (tgt := 110) B d_Book_two_101 rfl ?_
        refine mv_callVi (pc := 110) (n := 5) (ci := 12) (C := R_Book) B (mK_ok sk sv) hNs rfl rfl (c_Book_node_x l hi _ _ _ _ _ _ hR (by rw [n9]; exact n0) (by rw [n9]; exact n1)) rfl (ma_goodc kc_Book_node) (B.2.2.2.1 _ k_2269) (B.2.2.2.1 _ k_2271) (B.2.2.2.1 _ ks_110) (B.2.2.2.1 _ k_13) ⟨by decide +kernel, by decide +kernel, by decide +kernel⟩ rfl d_Book_two_110 rfl (Nat.le_of_ble_eq_true rfl) ⟨by decide, by decide⟩ ⟨by decide, by decide⟩ ⟨by decide, by decide⟩ (mv_noH hno _) (fun v110 σ110 h110 => ?_)
        obtain ⟨e110, z110⟩ := h110
        refine mv_istore (pc := 113) B d_Book_two_113 (by decide) rfl ?_
        refine mv_iload (pc := 115) B d_Book_two_115 0 rfl ?_
        exact mv_iret (pc := 117) B hr rfl d_Book_two_117 (Nat.le_refl _) (Nat.le_refl _) ⟨_, rfl, by rw [e110]; exact n9, τ, _, hT, z110⟩
    · skip
      refine mv_iconst (pc := 89) (v := 0) B d_Book_two_89 (by decide) ?_
      refine mv_goto (pc := 90) (tgt := 110) B d_Book_two_90 rfl ?_
      refine mv_callVi (pc := 110) (n := 5) (ci := 12) (C := R_Book) B (mK_ok sk sv) hNs rfl rfl (c_Book_node_x l hi _ _ _ _ _ _ hR (by rw [n9]; exact n0) (by rw [n9]; exact n1)) rfl (ma_goodc kc_Book_node) (B.2.2.2.1 _ k_2269) (B.2.2.2.1 _ k_2271) (B.2.2.2.1 _ ks_110) (B.2.2.2.1 _ k_13) ⟨by decide +kernel, by decide +kernel, by decide +kernel⟩ rfl d_Book_two_110 rfl (Nat.le_of_ble_eq_true rfl) ⟨by decide, by decide⟩ ⟨by decide, by decide⟩ ⟨by decide, by decide⟩ (mv_noH hno _) (fun v110 σ110 h110 => ?_)
      obtain ⟨e110, z110⟩ := h110
      refine mv_istore (pc := 113) B d_Book_two_113 (by decide) rfl ?_
      refine mv_iload (pc := 115) B d_Book_two_115 0 rfl ?_
      exact mv_iret (pc := 117) B hr rfl d_Book_two_117 (Nat.le_refl _) (Nat.le_refl _) ⟨_, rfl, by rw [e110]; exact n9, τ, _, hT, z110⟩
  have j59 : ∀ (k9 : Int32) (r9 : Int32) , mv_V p l e ({ frames := 1, cells := 0, slots := 0, locals := 26 }) s m ([.ref (al 74), .int o9, .int p9, .int x9, .int y9] : List Value).toArray below meth c (mg dA D al ext) 8 0 0 (mv_Q (mg dA D al ext) below s 0 0 (mv_Ri (fun v σ1 => v = mv_i σ 74 48 ∧ ∃ τ w9, FT 74 σ τ ∧ σ1 = nd 74 τ 7 x9 y9 o9 w9))) σ 59 [(0, .ref (al 74)), (1, .int o9), (2, .int p9), (3, .int x9), (4, .int y9), (5, .int k9)] [.int r9] := by
    intro k9 r9
    refine mv_istore (pc := 59) B d_Book_two_59 (by decide) rfl ?_
    refine mv_iload (pc := 61) B d_Book_two_61 6 rfl ?_
    refine mv_if_eq (pc := 63) (tgt := 77) B d_Book_two_63 rfl (fun h63 => ?_) (fun h63 => ?_)
    · skip
      refine mv_lpick [1, 2, 4, 5, 0] rfl ?_
      exact j77 _ _ (by first | exact FT.rf | exact FT.rf.of h74)
    · skip
      refine mv_iload (pc := 66) B d_Book_two_66 0 rfl ?_
      refine mv_if_ne (pc := 68) (tgt := 77) B d_Book_two_68 rfl (fun h68 => ?_) (fun h68 => ?_)
      · skip
        refine mv_lpick [1, 2, 4, 5, 0] rfl ?_
        exact j77 _ _ (by first | exact FT.rf | exact FT.rf.of h74)
      · skip
        refine mv_aload_n (pc := 71) B d_Book_two_71 rfl 1 rfl ?_
        refine mv_iconst (pc := 72) (v := 4) B d_Book_two_72 (by decide) ?_
        refine mv_iload_n (pc := 73) B d_Book_two_73 rfl 3 rfl ?_
        refine mv_callVv (pc := 74) (n := 2) (ci := 12) (C := R_Book) B (mK_ok sk sv) hNs rfl rfl (c_Book_fault_x l hi _ _ _ (by decide)) rfl (ma_goodc kc_Book_fault) (B.2.2.2.1 _ k_2185) (B.2.2.2.1 _ k_2187) (B.2.2.2.1 _ ks_92) (B.2.2.2.1 _ k_13) ⟨by decide +kernel, by decide +kernel, by decide +kernel⟩ rfl d_Book_two_74 rfl (Nat.le_of_ble_eq_true rfl) ⟨by decide, by decide⟩ ⟨by decide, by decide⟩ ⟨by decide, by decide⟩ (mv_noH hno _) (fun σ74 h74 => ?_)
        refine mv_lpick [1, 2, 4, 5, 0] rfl ?_
        exact j77 _ _ (by first | exact FT.rf | exact FT.rf.of h74)
  have j24 : ∀ (k9 : Int32) , mv_V p l e ({ frames := 1, cells := 0, slots := 0, locals := 26 }) s m ([.ref (al 74), .int o9, .int p9, .int x9, .int y9] : List Value).toArray below meth c (mg dA D al ext) 8 0 0 (mv_Q (mg dA D al ext) below s 0 0 (mv_Ri (fun v σ1 => v = mv_i σ 74 48 ∧ ∃ τ w9, FT 74 σ τ ∧ σ1 = nd 74 τ 7 x9 y9 o9 w9))) σ 24 [(0, .ref (al 74)), (1, .int o9), (2, .int p9), (3, .int x9), (4, .int y9)] [.int k9] := by
    intro k9
    refine mv_istore (pc := 24) B d_Book_two_24 (by decide) rfl ?_
    refine mv_iload (pc := 26) B d_Book_two_26 0 rfl ?_
    refine mv_if_eq (pc := 28) (tgt := 58) B d_Book_two_28 rfl (fun h28 => ?_) (fun h28 => ?_)
    · skip
      refine mv_iconst (pc := 58) (v := 0) B d_Book_two_58 (by decide) ?_
      refine mv_lpick [1, 2, 3, 4, 5, 0] rfl ?_
      exact j59 _ _
    · skip
      refine mv_iload_n (pc := 31) B d_Book_two_31 rfl 2 rfl ?_
      refine mv_callSi (pc := 32) (n := 1) B (mK_ok sk sv) hNs (c_Book_shifts l hi _ _) rfl (ma_goodc kc_Book_shifts) (B.2.2.2.1 _ k_2292) (B.2.2.2.1 _ k_2293) (B.2.2.2.1 _ k_13) ⟨by decide +kernel, by decide +kernel, by decide +kernel⟩ rfl d_Book_two_32 rfl (Nat.le_of_ble_eq_true rfl) ⟨by decide, by decide⟩ ⟨by decide, by decide⟩ ⟨by decide, by decide⟩ (mv_noH hno _) (fun v32 σ32 h32 => ?_)
      have e32 := h32.symm
      subst e32
      refine mv_if_ne (pc := 35) (tgt := 54) B d_Book_two_35 rfl (fun h35 => ?_) (fun h35 => ?_)
      · skip
        refine mv_iconst (pc := 54) (v := 1) B d_Book_two_54 (by decide) ?_
        refine mv_goto (pc := 55) (tgt := 59) B d_Book_two_55 rfl ?_
        refine mv_lpick [1, 2, 3, 4, 5, 0] rfl ?_
        exact j59 _ _
      · skip
        refine mv_aload_n (pc := 38) B d_Book_two_38 rfl 1 rfl ?_
        refine mv_getR (pc := 39) (ci := 12) (C := R_Book) (T := F_Book) (N := 65) B 45 rfl rfl (by decide) i_Book (B.2.2.2.1 _ k_1894) rfl (hR.1 _ 45 _ rfl) d_Book_two_39 ?_
        refine mv_iload_n (pc := 42) B d_Book_two_42 rfl 4 rfl ?_
        refine mv_iald (pc := 43) B rfl hx d_Book_two_43 ?_
        refine mv_aload_n (pc := 44) B d_Book_two_44 rfl 1 rfl ?_
        refine mv_getR (pc := 45) (ci := 12) (C := R_Book) (T := F_Book) (N := 65) B 45 rfl rfl (by decide) i_Book (B.2.2.2.1 _ k_1894) rfl (hR.1 _ 45 _ rfl) d_Book_two_45 ?_
        refine mv_iload (pc := 48) B d_Book_two_48 5 rfl ?_
        refine mv_iald (pc := 50) B rfl hy d_Book_two_50 ?_
        refine mv_icmp_ne (pc := 51) (tgt := 58) B d_Book_two_51 rfl (fun h51 => ?_) (fun h51 => ?_)
        · skip
          refine mv_iconst (pc := 58) (v := 0) B d_Book_two_58 (by decide) ?_
          refine mv_lpick [1, 2, 3, 4, 5, 0] rfl ?_
          exact j59 _ _
        · skip
          refine mv_iconst (pc := 54) (v := 1) B d_Book_two_54 (by decide) ?_
          refine mv_goto (pc := 55) (tgt := 59) B d_Book_two_55 rfl ?_
          refine mv_lpick [1, 2, 3, 4, 5, 0] rfl ?_
          exact j59 _ _
  refine mv_aload_n (pc := 0) B d_Book_two_0 rfl 0 rfl ?_
  refine mv_getR (pc := 1) (ci := 12) (C := R_Book) (T := F_Book) (N := 65) B 45 rfl rfl (by decide) i_Book (B.2.2.2.1 _ k_1894) rfl (hR.1 _ 45 _ rfl) d_Book_two_1 ?_
  refine mv_iload_n (pc := 4) B d_Book_two_4 rfl 3 rfl ?_
  refine mv_iald (pc := 5) B rfl hx d_Book_two_5 ?_
  refine mv_if_le (pc := 6) (tgt := 23) B d_Book_two_6 rfl (fun h6 => ?_) (fun h6 => ?_)
  · skip
    refine mv_iconst (pc := 23) (v := 0) B d_Book_two_23 (by decide) ?_
    refine mv_lpick [0, 1, 2, 3, 4] rfl ?_
    exact j24 _
  · skip
    refine mv_aload_n (pc := 9) B d_Book_two_9 rfl 0 rfl ?_
    refine mv_getR (pc := 10) (ci := 12) (C := R_Book) (T := F_Book) (N := 65) B 45 rfl rfl (by decide) i_Book (B.2.2.2.1 _ k_1894) rfl (hR.1 _ 45 _ rfl) d_Book_two_10 ?_
    refine mv_iload (pc := 13) B d_Book_two_13 4 rfl ?_
    refine mv_iald (pc := 15) B rfl hy d_Book_two_15 ?_
    refine mv_if_le (pc := 16) (tgt := 23) B d_Book_two_16 rfl (fun h16 => ?_) (fun h16 => ?_)
    · skip
      refine mv_iconst (pc := 23) (v := 0) B d_Book_two_23 (by decide) ?_
      refine mv_lpick [0, 1, 2, 3, 4] rfl ?_
      exact j24 _
    · skip
      refine mv_iconst (pc := 19) (v := 1) B d_Book_two_19 (by decide) ?_
      refine mv_goto (pc := 20) (tgt := 24) B d_Book_two_20 rfl ?_
      refine mv_lpick [0, 1, 2, 3, 4] rfl ?_
      exact j24 _
set_option maxHeartbeats 4000000 in
set_option maxRecDepth 100000 in
theorem c_Book_two_y (l : Launch) {dA : FieldType → ClassId} {D : va_G} {al : Nat → Nat} {ext : mv_Sh} {sk sv : Nat → Nat} (hi : mv_inj (mg dA D al ext)) (σ : mv_H) (o9 p9 x9 y9 : Int32) (hx : vp_in x9 33000) (hy : vp_in y9 33000) (hR : Br 108 (mv_r σ)) (n0 : 0 ≤ (mv_i σ 108 48).toInt) (n1 : (mv_i σ 108 48).toInt < 33000) : mv_C l y_Book_two (Cond.code y_Book_two b_Book_two 8 (Option.some Jvm.ClassFile.FieldType.int) :: ma) ({ frames := 1, cells := 0, slots := 0, locals := 26 }) (mg dA D al ext) (mK sk sv) [.ref (al 108), .int o9, .int p9, .int x9, .int y9] σ (mv_Ri (fun v σ1 => v = mv_i σ 108 48 ∧ ∃ τ w9, FT 108 σ τ ∧ σ1 = nd 108 τ 7 x9 y9 o9 w9)) := by
  refine mv_C.ofV (cc := b_Book_two) (nL := 8) (ret := (Option.some Jvm.ClassFile.FieldType.int)) (by decide +kernel) rfl hi (Nat.le_of_ble_eq_true rfl) ?_
  intro p e s m below meth c B hNs hr hnm hno
  have j77 : ∀ (τ : mv_H) (r9 : Int32) (hT : FT 108 σ τ), mv_V p l e ({ frames := 1, cells := 0, slots := 0, locals := 26 }) s m ([.ref (al 108), .int o9, .int p9, .int x9, .int y9] : List Value).toArray below meth c (mg dA D al ext) 8 0 0 (mv_Q (mg dA D al ext) below s 0 0 (mv_Ri (fun v σ1 => v = mv_i σ 108 48 ∧ ∃ τ w9, FT 108 σ τ ∧ σ1 = nd 108 τ 7 x9 y9 o9 w9))) τ 77 [(0, .ref (al 108)), (1, .int o9), (3, .int x9), (4, .int y9), (6, .int r9)] [] := by
    intro τ r9 hT
    have hR : Br 108 (mv_r τ) := by rw [hT.1.2.2.1]; exact hR
    have n9 := hT.2.1 48 (by omega)
    refine mv_aload_n (pc := 77) B d_Book_two_77 rfl 0 rfl ?_
    refine mv_bipush (pc := 78) (v := 7) B d_Book_two_78 (by decide) ?_
    refine mv_iload_n (pc := 80) B d_Book_two_80 rfl 2 rfl ?_
    refine mv_iload (pc := 81) B d_Book_two_81 3 rfl ?_
    refine mv_iload_n (pc := 83) B d_Book_two_83 rfl 1 rfl ?_
    refine mv_iload (pc := 84) B d_Book_two_84 4 rfl ?_
    refine mv_if_ne (pc := 86) (tgt := 93) B d_Book_two_86 rfl (fun h86 => ?_) (fun h86 => ?_)
    · skip
      refine mv_iload_n (pc := 93) B d_Book_two_93 rfl 1 rfl ?_
      refine mv_callSi (pc := 94) (n := 1) B (mK_ok sk sv) hNs (c_Book_asks l hi _ _) rfl (ma_goodc kc_Book_asks) (B.2.2.2.1 _ k_2295) (B.2.2.2.1 _ k_2296) (B.2.2.2.1 _ k_13) ⟨by decide +kernel, by decide +kernel, by decide +kernel⟩ rfl d_Book_two_94 rfl (Nat.le_of_ble_eq_true rfl) ⟨by decide, by decide⟩ ⟨by decide, by decide⟩ ⟨by decide, by decide⟩ (mv_noH hno _) (fun v94 σ94 h94 => ?_)
      have e94 := h94.symm
      subst e94
      refine mv_if_eq (pc := 97) (tgt := 104) B d_Book_two_97 rfl (fun h97 => ?_) (fun h97 => ?_)
      · skip
        refine mv_aload_n (pc := 104) B d_Book_two_104 rfl 0 rfl ?_
        refine mv_getR (pc := 105) (ci := 12) (C := R_Book) (T := F_Book) (N := 65) B 45 rfl rfl (by decide) i_Book (B.2.2.2.1 _ k_1894) rfl (hR.1 _ 45 _ rfl) d_Book_two_105 ?_
        refine mv_iload_n (pc := 108) B d_Book_two_108 rfl 2 rfl ?_
        refine mv_iald (pc := 109) B rfl hx d_Book_two_109 ?_
        refine mv_callVi (pc := 110) (n := 5) (ci := 12) (C := R_Book) B (mK_ok sk sv) hNs rfl rfl (c_Book_node_y l hi _ _ _ _ _ _ hR (by rw [n9]; exact n0) (by rw [n9]; exact n1)) rfl (ma_goodc kc_Book_node) (B.2.2.2.1 _ k_2269) (B.2.2.2.1 _ k_2271) (B.2.2.2.1 _ ks_110) (B.2.2.2.1 _ k_13) ⟨by decide +kernel, by decide +kernel, by decide +kernel⟩ rfl d_Book_two_110 rfl (Nat.le_of_ble_eq_true rfl) ⟨by decide, by decide⟩ ⟨by decide, by decide⟩ ⟨by decide, by decide⟩ (mv_noH hno _) (fun v110 σ110 h110 => ?_)
        obtain ⟨e110, z110⟩ := h110
        refine mv_istore (pc := 113) B d_Book_two_113 (by decide) rfl ?_
        refine mv_iload (pc := 115) B d_Book_two_115 0 rfl ?_
        exact mv_iret (pc := 117) B hr rfl d_Book_two_117 (Nat.le_refl _) (Nat.le_refl _) ⟨_, rfl, by rw [e110]; exact n9, τ, _, hT, z110⟩
      · skip
        refine mv_iconst (pc := 100) (v := 1) B d_Book_two_100 (by decide) ?_
        refine mv_goto (pc := 101) (tgt := 110) B d_Book_two_101 rfl ?_
        refine mv_callVi (pc := 110) (n := 5) (ci := 12) (C := R_Book) B (mK_ok sk sv) hNs rfl rfl (c_Book_node_y l hi _ _ _ _ _ _ hR (by rw [n9]; exact n0) (by rw [n9]; exact n1)) rfl (ma_goodc kc_Book_node) (B.2.2.2.1 _ k_2269) (B.2.2.2.1 _ k_2271) (B.2.2.2.1 _ ks_110) (B.2.2.2.1 _ k_13) ⟨by decide +kernel, by decide +kernel, by decide +kernel⟩ rfl d_Book_two_110 rfl (Nat.le_of_ble_eq_true rfl) ⟨by decide, by decide⟩ ⟨by decide, by decide⟩ ⟨by decide, by decide⟩ (mv_noH hno _) (fun v110 σ110 h110 => ?_)
        obtain ⟨e110, z110⟩ := h110
        refine mv_istore (pc := 113) B d_Book_two_113 (by decide) rfl ?_
        refine mv_iload (pc := 115) B d_Book_two_115 0 rfl ?_
        exact mv_iret (pc := 117) B hr rfl d_Book_two_117 (Nat.le_refl _) (Nat.le_refl _) ⟨_, rfl, by rw [e110]; exact n9, τ, _, hT, z110⟩
    · skip
      refine mv_iconst (pc := 89) (v := 0) B d_Book_two_89 (by decide) ?_
      refine mv_goto (pc := 90) (tgt := 110) B d_Book_two_90 rfl ?_
      refine mv_callVi (pc := 110) (n := 5) (ci := 12) (C := R_Book) B (mK_ok sk sv) hNs rfl rfl (c_Book_node_y l hi _ _ _ _ _ _ hR (by rw [n9]; exact n0) (by rw [n9]; exact n1)) rfl (ma_goodc kc_Book_node) (B.2.2.2.1 _ k_2269) (B.2.2.2.1 _ k_2271) (B.2.2.2.1 _ ks_110) (B.2.2.2.1 _ k_13) ⟨by decide +kernel, by decide +kernel, by decide +kernel⟩ rfl d_Book_two_110 rfl (Nat.le_of_ble_eq_true rfl) ⟨by decide, by decide⟩ ⟨by decide, by decide⟩ ⟨by decide, by decide⟩ (mv_noH hno _) (fun v110 σ110 h110 => ?_)
      obtain ⟨e110, z110⟩ := h110
      refine mv_istore (pc := 113) B d_Book_two_113 (by decide) rfl ?_
      refine mv_iload (pc := 115) B d_Book_two_115 0 rfl ?_
      exact mv_iret (pc := 117) B hr rfl d_Book_two_117 (Nat.le_refl _) (Nat.le_refl _) ⟨_, rfl, by rw [e110]; exact n9, τ, _, hT, z110⟩
  have j59 : ∀ (k9 : Int32) (r9 : Int32) , mv_V p l e ({ frames := 1, cells := 0, slots := 0, locals := 26 }) s m ([.ref (al 108), .int o9, .int p9, .int x9, .int y9] : List Value).toArray below meth c (mg dA D al ext) 8 0 0 (mv_Q (mg dA D al ext) below s 0 0 (mv_Ri (fun v σ1 => v = mv_i σ 108 48 ∧ ∃ τ w9, FT 108 σ τ ∧ σ1 = nd 108 τ 7 x9 y9 o9 w9))) σ 59 [(0, .ref (al 108)), (1, .int o9), (2, .int p9), (3, .int x9), (4, .int y9), (5, .int k9)] [.int r9] := by
    intro k9 r9
    refine mv_istore (pc := 59) B d_Book_two_59 (by decide) rfl ?_
    refine mv_iload (pc := 61) B d_Book_two_61 6 rfl ?_
    refine mv_if_eq (pc := 63) (tgt := 77) B d_Book_two_63 rfl (fun h63 => ?_) (fun h63 => ?_)
    · skip
      refine mv_lpick [1, 2, 4, 5, 0] rfl ?_
      exact j77 _ _ (by first | exact FT.rf | exact FT.rf.of h74)
    · skip
      refine mv_iload (pc := 66) B d_Book_two_66 0 rfl ?_
      refine mv_if_ne (pc := 68) (tgt := 77) B d_Book_two_68 rfl (fun h68 => ?_) (fun h68 => ?_)
      · skip
        refine mv_lpick [1, 2, 4, 5, 0] rfl ?_
        exact j77 _ _ (by first | exact FT.rf | exact FT.rf.of h74)
      · skip
        refine mv_aload_n (pc := 71) B d_Book_two_71 rfl 1 rfl ?_
        refine mv_iconst (pc := 72) (v := 4) B d_Book_two_72 (by decide) ?_
        refine mv_iload_n (pc := 73) B d_Book_two_73 rfl 3 rfl ?_
        refine mv_callVv (pc := 74) (n := 2) (ci := 12) (C := R_Book) B (mK_ok sk sv) hNs rfl rfl (c_Book_fault_y l hi _ _ _ (by decide)) rfl (ma_goodc kc_Book_fault) (B.2.2.2.1 _ k_2185) (B.2.2.2.1 _ k_2187) (B.2.2.2.1 _ ks_92) (B.2.2.2.1 _ k_13) ⟨by decide +kernel, by decide +kernel, by decide +kernel⟩ rfl d_Book_two_74 rfl (Nat.le_of_ble_eq_true rfl) ⟨by decide, by decide⟩ ⟨by decide, by decide⟩ ⟨by decide, by decide⟩ (mv_noH hno _) (fun σ74 h74 => ?_)
        refine mv_lpick [1, 2, 4, 5, 0] rfl ?_
        exact j77 _ _ (by first | exact FT.rf | exact FT.rf.of h74)
  have j24 : ∀ (k9 : Int32) , mv_V p l e ({ frames := 1, cells := 0, slots := 0, locals := 26 }) s m ([.ref (al 108), .int o9, .int p9, .int x9, .int y9] : List Value).toArray below meth c (mg dA D al ext) 8 0 0 (mv_Q (mg dA D al ext) below s 0 0 (mv_Ri (fun v σ1 => v = mv_i σ 108 48 ∧ ∃ τ w9, FT 108 σ τ ∧ σ1 = nd 108 τ 7 x9 y9 o9 w9))) σ 24 [(0, .ref (al 108)), (1, .int o9), (2, .int p9), (3, .int x9), (4, .int y9)] [.int k9] := by
    intro k9
    refine mv_istore (pc := 24) B d_Book_two_24 (by decide) rfl ?_
    refine mv_iload (pc := 26) B d_Book_two_26 0 rfl ?_
    refine mv_if_eq (pc := 28) (tgt := 58) B d_Book_two_28 rfl (fun h28 => ?_) (fun h28 => ?_)
    · skip
      refine mv_iconst (pc := 58) (v := 0) B d_Book_two_58 (by decide) ?_
      refine mv_lpick [1, 2, 3, 4, 5, 0] rfl ?_
      exact j59 _ _
    · skip
      refine mv_iload_n (pc := 31) B d_Book_two_31 rfl 2 rfl ?_
      refine mv_callSi (pc := 32) (n := 1) B (mK_ok sk sv) hNs (c_Book_shifts l hi _ _) rfl (ma_goodc kc_Book_shifts) (B.2.2.2.1 _ k_2292) (B.2.2.2.1 _ k_2293) (B.2.2.2.1 _ k_13) ⟨by decide +kernel, by decide +kernel, by decide +kernel⟩ rfl d_Book_two_32 rfl (Nat.le_of_ble_eq_true rfl) ⟨by decide, by decide⟩ ⟨by decide, by decide⟩ ⟨by decide, by decide⟩ (mv_noH hno _) (fun v32 σ32 h32 => ?_)
      have e32 := h32.symm
      subst e32
      refine mv_if_ne (pc := 35) (tgt := 54) B d_Book_two_35 rfl (fun h35 => ?_) (fun h35 => ?_)
      · skip
        refine mv_iconst (pc := 54) (v := 1) B d_Book_two_54 (by decide) ?_
        refine mv_goto (pc := 55) (tgt := 59) B d_Book_two_55 rfl ?_
        refine mv_lpick [1, 2, 3, 4, 5, 0] rfl ?_
        exact j59 _ _
      · skip
        refine mv_aload_n (pc := 38) B d_Book_two_38 rfl 1 rfl ?_
        refine mv_getR (pc := 39) (ci := 12) (C := R_Book) (T := F_Book) (N := 65) B 45 rfl rfl (by decide) i_Book (B.2.2.2.1 _ k_1894) rfl (hR.1 _ 45 _ rfl) d_Book_two_39 ?_
        refine mv_iload_n (pc := 42) B d_Book_two_42 rfl 4 rfl ?_
        refine mv_iald (pc := 43) B rfl hx d_Book_two_43 ?_
        refine mv_aload_n (pc := 44) B d_Book_two_44 rfl 1 rfl ?_
        refine mv_getR (pc := 45) (ci := 12) (C := R_Book) (T := F_Book) (N := 65) B 45 rfl rfl (by decide) i_Book (B.2.2.2.1 _ k_1894) rfl (hR.1 _ 45 _ rfl) d_Book_two_45 ?_
        refine mv_iload (pc := 48) B d_Book_two_48 5 rfl ?_
        refine mv_iald (pc := 50) B rfl hy d_Book_two_50 ?_
        refine mv_icmp_ne (pc := 51) (tgt := 58) B d_Book_two_51 rfl (fun h51 => ?_) (fun h51 => ?_)
        · skip
          refine mv_iconst (pc := 58) (v := 0) B d_Book_two_58 (by decide) ?_
          refine mv_lpick [1, 2, 3, 4, 5, 0] rfl ?_
          exact j59 _ _
        · skip
          refine mv_iconst (pc := 54) (v := 1) B d_Book_two_54 (by decide) ?_
          refine mv_goto (pc := 55) (tgt := 59) B d_Book_two_55 rfl ?_
          refine mv_lpick [1, 2, 3, 4, 5, 0] rfl ?_
          exact j59 _ _
  refine mv_aload_n (pc := 0) B d_Book_two_0 rfl 0 rfl ?_
  refine mv_getR (pc := 1) (ci := 12) (C := R_Book) (T := F_Book) (N := 65) B 45 rfl rfl (by decide) i_Book (B.2.2.2.1 _ k_1894) rfl (hR.1 _ 45 _ rfl) d_Book_two_1 ?_
  refine mv_iload_n (pc := 4) B d_Book_two_4 rfl 3 rfl ?_
  refine mv_iald (pc := 5) B rfl hx d_Book_two_5 ?_
  refine mv_if_le (pc := 6) (tgt := 23) B d_Book_two_6 rfl (fun h6 => ?_) (fun h6 => ?_)
  · skip
    refine mv_iconst (pc := 23) (v := 0) B d_Book_two_23 (by decide) ?_
    refine mv_lpick [0, 1, 2, 3, 4] rfl ?_
    exact j24 _
  · skip
    refine mv_aload_n (pc := 9) B d_Book_two_9 rfl 0 rfl ?_
    refine mv_getR (pc := 10) (ci := 12) (C := R_Book) (T := F_Book) (N := 65) B 45 rfl rfl (by decide) i_Book (B.2.2.2.1 _ k_1894) rfl (hR.1 _ 45 _ rfl) d_Book_two_10 ?_
    refine mv_iload (pc := 13) B d_Book_two_13 4 rfl ?_
    refine mv_iald (pc := 15) B rfl hy d_Book_two_15 ?_
    refine mv_if_le (pc := 16) (tgt := 23) B d_Book_two_16 rfl (fun h16 => ?_) (fun h16 => ?_)
    · skip
      refine mv_iconst (pc := 23) (v := 0) B d_Book_two_23 (by decide) ?_
      refine mv_lpick [0, 1, 2, 3, 4] rfl ?_
      exact j24 _
    · skip
      refine mv_iconst (pc := 19) (v := 1) B d_Book_two_19 (by decide) ?_
      refine mv_goto (pc := 20) (tgt := 24) B d_Book_two_20 rfl ?_
      refine mv_lpick [0, 1, 2, 3, 4] rfl ?_
      exact j24 _
def y_Book_expression : MethodName := ⟨"MachineLoomModel$Book", "expression", "()I"⟩
abbrev b_Book_expression : ByteArray := prog_15_method_27_code
theorem kc_Book_expression : Cond.code y_Book_expression b_Book_expression 5 (Option.some Jvm.ClassFile.FieldType.int) ∈ ma := ma_of (tb_10 _ (List.mem_of_getElem? (i := 88) rfl)) rfl
def y_Book_unary : MethodName := ⟨"MachineLoomModel$Book", "unary", "()I"⟩
abbrev b_Book_unary : ByteArray := prog_15_method_34_code
theorem kc_Book_unary : Cond.code y_Book_unary b_Book_unary 5 (Option.some Jvm.ClassFile.FieldType.int) ∈ ma := ma_of (tb_10 _ (List.mem_of_getElem? (i := 96) rfl)) rfl
def y_Book_binary : MethodName := ⟨"MachineLoomModel$Book", "binary", "(I)I"⟩
abbrev b_Book_binary : ByteArray := prog_15_method_30_code
theorem kc_Book_binary : Cond.code y_Book_binary b_Book_binary 5 (Option.some Jvm.ClassFile.FieldType.int) ∈ ma := ma_of (tb_10 _ (List.mem_of_getElem? (i := 92) rfl)) rfl
def XE (l : Launch) (dA : FieldType → ClassId) (D : va_G) (al : Nat → Nat) (ext : mv_Sh) (sk sv : Nat → Nat) (B g : Nat) : Prop := XK l dA D al ext sk sv B y_Book_expression b_Book_expression 5 [] (14 * g + 23) (500 * g + 840) (10 * g + 9) g
def XU (l : Launch) (dA : FieldType → ClassId) (D : va_G) (al : Nat → Nat) (ext : mv_Sh) (sk sv : Nat → Nat) (B g : Nat) : Prop := XK l dA D al ext sk sv B y_Book_unary b_Book_unary 5 [] (14 * g + 13) (500 * g + 550) (10 * g) g
def XB (l : Launch) (dA : FieldType → ClassId) (D : va_G) (al : Nat → Nat) (ext : mv_Sh) (sk sv : Nat → Nat) (B g k : Nat) : Prop := ∀ v : Int32, v.toInt + k = 8 → XK l dA D al ext sk sv B y_Book_binary b_Book_binary 5 [.int v] (14 * g + 14 + k) (500 * g + 600 + 25 * k) (10 * g + k) g
