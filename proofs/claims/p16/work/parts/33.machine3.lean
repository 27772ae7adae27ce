/-! Machine: undo, goForth, wordAt, opOf -/
abbrev F65 : mv_H → mv_H → Prop := Fr (fun _ _ => False) (fun _ => False) (fun o => o = 65)
abbrev FM : mv_H → mv_H → Prop := Fr (fun o _ => o = 64) (fun o => o = 68) (fun o => o = 65 ∨ o = 66 ∨ o = 67 ∨ o = 69)
abbrev F12 : mv_H → mv_H → Prop := Fr (fun o k => o = 64 ∧ k = 12) (fun _ => False) (fun _ => False)
def PP (P : Nat) : Prop := P + 15 < 64 ∨ 69 < P
theorem FM.i {P k : Nat} {σ τ : mv_H} (h : FM σ τ) (hP : PP P) : mv_i τ P k = mv_i σ P k := h.1 _ _ (by unfold PP at hP; omega)
theorem FM.a {P j : Nat} {σ τ : mv_H} (h : FM σ τ) (hP : PP P) (hj : j < 16) : mv_a τ (P + j) = mv_a σ (P + j) := h.2.1 _ (by unfold PP at hP; omega)
theorem FM.b {P j : Nat} {σ τ : mv_H} (h : FM σ τ) (hP : PP P) (hj : j < 16) : mv_b τ (P + j) = mv_b σ (P + j) := h.2.2.1 _ (by unfold PP at hP; omega)
theorem Th.fm {P th sl : Nat} {σ τ : mv_H} (h : Th P σ th sl) (f : FM σ τ) (hP : PP P) : Th P τ th sl := h.fr (funext fun _ => f.i hP) (f.a hP (by omega)) (f.a hP (by omega))
theorem TreeOK.fm {P M : Nat} {σ τ : mv_H} (h : TreeOK P M σ) (f : FM σ τ) (hP : PP P) : TreeOK P M τ := by
  unfold TreeOK
  rw [f.i hP, f.a (j := 12) hP (by omega), f.a (j := 13) hP (by omega), f.a (j := 14) hP (by omega), f.a (j := 15) hP (by omega), f.b (j := 5) hP (by omega), f.b (j := 6) hP (by omega)]
  exact h
theorem TreeZ.fm {P : Nat} {σ τ : mv_H} (h : TreeZ P σ) (f : FM σ τ) (hP : PP P) : TreeZ P τ := by
  unfold TreeZ
  rw [f.a hP (by omega), f.a hP (by omega), f.a hP (by omega)]
  exact h
theorem TreeOK.fr {P M : Nat} {σ τ : mv_H} (h : TreeOK P M σ) (ei : mv_i τ P = mv_i σ P) (ea : ∀ j, 12 ≤ j → j ≤ 15 → mv_a τ (P + j) = mv_a σ (P + j)) (eb : ∀ j, 5 ≤ j → j ≤ 6 → mv_b τ (P + j) = mv_b σ (P + j)) : TreeOK P M τ := by
  unfold TreeOK at h ⊢
  rw [ei, ea 12 (by decide) (by decide), ea 13 (by decide) (by decide), ea 14 (by decide) (by decide), ea 15 (by decide) (by decide), eb 5 (by decide) (by decide), eb 6 (by decide) (by decide)]
  exact h
theorem MF.fm {σ τ : mv_H} (h : MF σ τ) : FM σ τ := h.up (fun _ _ q => q.1) (fun _ q => q) (fun _ q => q)
theorem F65.fm {σ τ : mv_H} (h : F65 σ τ) : FM σ τ := h.up (fun _ _ q => q.elim) (fun _ q => q.elim) (fun _ q => Or.inl q)
theorem F12.fm {σ τ : mv_H} (h : F12 σ τ) : FM σ τ := h.up (fun _ _ q => q.1) (fun _ q => q.elim) (fun _ q => q.elim)
theorem FM0 {σ : mv_H} : FM σ σ := Fr.rf
def y_Machine_undo : MethodName := ⟨"MachineLoom$Machine", "undo", "()V"⟩
abbrev b_Machine_undo : ByteArray := prog_5_method_9_code
theorem kc_Machine_undo : Cond.code y_Machine_undo b_Machine_undo 2 (Option.none : Option Jvm.ClassFile.FieldType) ∈ ma := ma_of (tb_7 _ (List.mem_of_getElem? (i := 202) rfl)) rfl
theorem d_Machine_undo_0 : decode b_Machine_undo 0 = .ok (.aload_n 0, 1) := by decide +kernel
theorem d_Machine_undo_1 : decode b_Machine_undo 1 = .ok (.getfield 93, 3) := by decide +kernel
theorem d_Machine_undo_4 : decode b_Machine_undo 4 = .ok (.iconst 1, 1) := by decide +kernel
theorem d_Machine_undo_5 : decode b_Machine_undo 5 = .ok (.isub, 1) := by decide +kernel
theorem d_Machine_undo_6 : decode b_Machine_undo 6 = .ok (.istore_n 1, 1) := by decide +kernel
theorem d_Machine_undo_7 : decode b_Machine_undo 7 = .ok (.iload_n 1, 1) := by decide +kernel
theorem d_Machine_undo_8 : decode b_Machine_undo 8 = .ok (.ifCond .lt (26), 3) := by decide +kernel
theorem d_Machine_undo_11 : decode b_Machine_undo 11 = .ok (.aload_n 0, 1) := by decide +kernel
theorem d_Machine_undo_12 : decode b_Machine_undo 12 = .ok (.getfield 10, 3) := by decide +kernel
theorem d_Machine_undo_15 : decode b_Machine_undo 15 = .ok (.aload_n 0, 1) := by decide +kernel
theorem d_Machine_undo_16 : decode b_Machine_undo 16 = .ok (.getfield 22, 3) := by decide +kernel
theorem d_Machine_undo_19 : decode b_Machine_undo 19 = .ok (.iload_n 1, 1) := by decide +kernel
theorem d_Machine_undo_20 : decode b_Machine_undo 20 = .ok (.iaload, 1) := by decide +kernel
theorem d_Machine_undo_21 : decode b_Machine_undo 21 = .ok (.aload_n 0, 1) := by decide +kernel
theorem d_Machine_undo_22 : decode b_Machine_undo 22 = .ok (.getfield 26, 3) := by decide +kernel
theorem d_Machine_undo_25 : decode b_Machine_undo 25 = .ok (.iload_n 1, 1) := by decide +kernel
theorem d_Machine_undo_26 : decode b_Machine_undo 26 = .ok (.laload, 1) := by decide +kernel
theorem d_Machine_undo_27 : decode b_Machine_undo 27 = .ok (.lastore, 1) := by decide +kernel
theorem d_Machine_undo_28 : decode b_Machine_undo 28 = .ok (.iinc 1 (-1), 3) := by decide +kernel
theorem d_Machine_undo_31 : decode b_Machine_undo 31 = .ok (.goto (-24), 3) := by decide +kernel
theorem d_Machine_undo_34 : decode b_Machine_undo 34 = .ok (.return_, 1) := by decide +kernel
set_option maxHeartbeats 4000000 in
set_option maxRecDepth 100000 in
theorem c_Machine_undo_a (l : Launch) {dA : FieldType → ClassId} {D : va_G} {al : Nat → Nat} {ext : mv_Sh} {sk sv : Nat → Nat} (hi : mv_inj (mg dA D al ext)) (σ : mv_H) (hR : Rf 32 (mv_r σ)) (u : Nat) (hU : Un σ u) : mv_C l y_Machine_undo (Cond.code y_Machine_undo b_Machine_undo 2 (Option.none : Option Jvm.ClassFile.FieldType) :: ma) ({ frames := 0, cells := 0, slots := 0, locals := 0 }) (mg dA D al ext) (mK sk sv) [.ref (al 64)] σ (mv_Rv (fun σ1 => F65 σ σ1)) := by
  refine mv_C.ofV (cc := b_Machine_undo) (nL := 2) (ret := (Option.none : Option Jvm.ClassFile.FieldType)) (by decide +kernel) rfl hi (Nat.le_of_ble_eq_true rfl) ?_
  intro p e s m below meth c B hNs hr hnm hno
  have hu0 := hU.1
  have hu1 := hU.2.1
  have lp : ∀ (nn : Nat) (τ : mv_H) (jj : Int32) (q0 : -1 ≤ jj.toInt) (q1 : jj.toInt < u) (qF : F65 σ τ) (qR : Rf 32 (mv_r τ)), (jj.toInt + 1).toNat < nn → mv_V p l e ({ frames := 0, cells := 0, slots := 0, locals := 0 }) s m ([.ref (al 64)] : List Value).toArray below meth c (mg dA D al ext) 2 0 0 (mv_Q (mg dA D al ext) below s 0 0 (mv_Rv (fun σ1 => F65 σ σ1))) τ 7 [(1, .int jj), (0, .ref (al 64))] [] := by
    intro nn
    induction nn with
    | zero => intro τ jj q0 q1 qF qR hm; exact absurd hm (Nat.not_lt_zero _)
    | succ nn ih =>
      intro τ jj q0 q1 qF qR hm
      refine mv_iload_n (pc := 7) B d_Machine_undo_7 rfl 0 rfl ?_
      refine mv_if_lt (pc := 8) (tgt := 34) B d_Machine_undo_8 rfl (fun h8 => ?_) (fun h8 => ?_)
      · skip
        skip
        exact mv_vret (pc := 34) B hr d_Machine_undo_34 (Nat.le_refl _) (Nat.le_refl _) ⟨rfl, qF⟩
      · skip
        rw [Int32.lt_iff_toInt_lt] at h8
        simp only [Int32.reduceToInt] at h8
        have ejj := i32_cl (x := jj) (by omega)
        have hs := hU.2.2 jj.toNatClampNeg (by omega)
        have es : mv_a τ 68 = mv_a σ 68 := qF.2.1 _ (fun q => q.elim)
        have w2 : (jj + -1).toInt = jj.toInt - 1 := by exact i32_add (x := jj) (y := -1) (by show -2147483648 ≤ jj.toInt + -1; omega) (by show jj.toInt + -1 < 2147483648; omega)
        have hs0 : 0 ≤ (mv_a τ 68 jj.toNatClampNeg).toInt := by rw [es]; exact hs.1
        have hs1 : (mv_a τ 68 jj.toNatClampNeg).toInt < 65600 := by rw [es]; exact hs.2
        have go := fun v9 => ih (mv_sb τ 65 (mv_a τ 68 jj.toNatClampNeg).toNatClampNeg v9) (jj + -1) (by omega) (by omega) (qF.sb rfl) qR (by omega)
        refine mv_aload_n (pc := 11) B d_Machine_undo_11 rfl 1 rfl ?_
        refine mv_getR (pc := 12) (ci := 9) (C := R_Machine) (T := F_Machine) (N := 13) B 1 rfl rfl (by decide) i_Machine (B.2.2.2.1 _ k_442) rfl (qR.1 _ 1 _ rfl) d_Machine_undo_12 ?_
        refine mv_aload_n (pc := 15) B d_Machine_undo_15 rfl 1 rfl ?_
        refine mv_getR (pc := 16) (ci := 9) (C := R_Machine) (T := F_Machine) (N := 13) B 5 rfl rfl (by decide) i_Machine (B.2.2.2.1 _ k_447) rfl (qR.1 _ 5 _ rfl) d_Machine_undo_16 ?_
        refine mv_iload_n (pc := 19) B d_Machine_undo_19 rfl 0 rfl ?_
        refine mv_iald (pc := 20) B rfl (i32_in (by omega) (by omega)) d_Machine_undo_20 ?_
        refine mv_aload_n (pc := 21) B d_Machine_undo_21 rfl 1 rfl ?_
        refine mv_getR (pc := 22) (ci := 9) (C := R_Machine) (T := F_Machine) (N := 13) B 6 rfl rfl (by decide) i_Machine (B.2.2.2.1 _ k_448) rfl (qR.1 _ 6 _ rfl) d_Machine_undo_22 ?_
        refine mv_iload_n (pc := 25) B d_Machine_undo_25 rfl 0 rfl ?_
        refine mv_lald (pc := 26) B rfl (i32_in (by omega) (by omega)) d_Machine_undo_26 ?_
        refine mv_last (pc := 27) B rfl (i32_in hs0 hs1) d_Machine_undo_27 ?_
        refine mv_iinc (pc := 28) (j := 0) (v := -1) B d_Machine_undo_28 rfl (by decide) (by decide) rfl ?_
        refine mv_goto (pc := 31) (tgt := 7) B d_Machine_undo_31 rfl ?_
        refine mv_lpick [0, 1] rfl ?_
        exact go _
  refine mv_aload_n (pc := 0) B d_Machine_undo_0 rfl 0 rfl ?_
  refine mv_getI (pc := 1) (ci := 9) (C := R_Machine) (T := F_Machine) (N := 13) B 7 rfl rfl (by decide) i_Machine (B.2.2.2.1 _ k_449) rfl d_Machine_undo_1 ?_
  refine mv_iconst (pc := 4) (v := 1) B d_Machine_undo_4 (by decide) ?_
  refine mv_isub (pc := 5) B d_Machine_undo_5 ?_
  refine mv_topi (fun y5 ey5 => ?_)
  have fy5 := i32_subE ey5 (by (try simp only [Int32.reduceToInt]); omega) (by (try simp only [Int32.reduceToInt]); omega)
  try simp only [Int32.reduceToInt] at fy5
  refine mv_istore_n (pc := 6) B d_Machine_undo_6 rfl (by decide) rfl ?_
  refine mv_lpick [0, 1] rfl ?_
  exact lp _ _ _ (by omega) (by omega) Fr.rf hR (Nat.lt_succ_self _)
set_option maxHeartbeats 4000000 in
set_option maxRecDepth 100000 in
theorem c_Machine_undo_b (l : Launch) {dA : FieldType → ClassId} {D : va_G} {al : Nat → Nat} {ext : mv_Sh} {sk sv : Nat → Nat} (hi : mv_inj (mg dA D al ext)) (σ : mv_H) (hR : Rf 48 (mv_r σ)) (u : Nat) (hU : Un σ u) : mv_C l y_Machine_undo (Cond.code y_Machine_undo b_Machine_undo 2 (Option.none : Option Jvm.ClassFile.FieldType) :: ma) ({ frames := 0, cells := 0, slots := 0, locals := 0 }) (mg dA D al ext) (mK sk sv) [.ref (al 64)] σ (mv_Rv (fun σ1 => F65 σ σ1)) := by
  refine mv_C.ofV (cc := b_Machine_undo) (nL := 2) (ret := (Option.none : Option Jvm.ClassFile.FieldType)) (by decide +kernel) rfl hi (Nat.le_of_ble_eq_true rfl) ?_
  intro p e s m below meth c B hNs hr hnm hno
  have hu0 := hU.1
  have hu1 := hU.2.1
  have lp : ∀ (nn : Nat) (τ : mv_H) (jj : Int32) (q0 : -1 ≤ jj.toInt) (q1 : jj.toInt < u) (qF : F65 σ τ) (qR : Rf 48 (mv_r τ)), (jj.toInt + 1).toNat < nn → mv_V p l e ({ frames := 0, cells := 0, slots := 0, locals := 0 }) s m ([.ref (al 64)] : List Value).toArray below meth c (mg dA D al ext) 2 0 0 (mv_Q (mg dA D al ext) below s 0 0 (mv_Rv (fun σ1 => F65 σ σ1))) τ 7 [(1, .int jj), (0, .ref (al 64))] [] := by
    intro nn
    induction nn with
    | zero => intro τ jj q0 q1 qF qR hm; exact absurd hm (Nat.not_lt_zero _)
    | succ nn ih =>
      intro τ jj q0 q1 qF qR hm
      refine mv_iload_n (pc := 7) B d_Machine_undo_7 rfl 0 rfl ?_
      refine mv_if_lt (pc := 8) (tgt := 34) B d_Machine_undo_8 rfl (fun h8 => ?_) (fun h8 => ?_)
      · skip
        skip
        exact mv_vret (pc := 34) B hr d_Machine_undo_34 (Nat.le_refl _) (Nat.le_refl _) ⟨rfl, qF⟩
      · skip
        rw [Int32.lt_iff_toInt_lt] at h8
        simp only [Int32.reduceToInt] at h8
        have ejj := i32_cl (x := jj) (by omega)
        have hs := hU.2.2 jj.toNatClampNeg (by omega)
        have es : mv_a τ 68 = mv_a σ 68 := qF.2.1 _ (fun q => q.elim)
        have w2 : (jj + -1).toInt = jj.toInt - 1 := by exact i32_add (x := jj) (y := -1) (by show -2147483648 ≤ jj.toInt + -1; omega) (by show jj.toInt + -1 < 2147483648; omega)
        have hs0 : 0 ≤ (mv_a τ 68 jj.toNatClampNeg).toInt := by rw [es]; exact hs.1
        have hs1 : (mv_a τ 68 jj.toNatClampNeg).toInt < 65600 := by rw [es]; exact hs.2
        have go := fun v9 => ih (mv_sb τ 65 (mv_a τ 68 jj.toNatClampNeg).toNatClampNeg v9) (jj + -1) (by omega) (by omega) (qF.sb rfl) qR (by omega)
        refine mv_aload_n (pc := 11) B d_Machine_undo_11 rfl 1 rfl ?_
        refine mv_getR (pc := 12) (ci := 9) (C := R_Machine) (T := F_Machine) (N := 13) B 1 rfl rfl (by decide) i_Machine (B.2.2.2.1 _ k_442) rfl (qR.1 _ 1 _ rfl) d_Machine_undo_12 ?_
        refine mv_aload_n (pc := 15) B d_Machine_undo_15 rfl 1 rfl ?_
        refine mv_getR (pc := 16) (ci := 9) (C := R_Machine) (T := F_Machine) (N := 13) B 5 rfl rfl (by decide) i_Machine (B.2.2.2.1 _ k_447) rfl (qR.1 _ 5 _ rfl) d_Machine_undo_16 ?_
        refine mv_iload_n (pc := 19) B d_Machine_undo_19 rfl 0 rfl ?_
        refine mv_iald (pc := 20) B rfl (i32_in (by omega) (by omega)) d_Machine_undo_20 ?_
        refine mv_aload_n (pc := 21) B d_Machine_undo_21 rfl 1 rfl ?_
        refine mv_getR (pc := 22) (ci := 9) (C := R_Machine) (T := F_Machine) (N := 13) B 6 rfl rfl (by decide) i_Machine (B.2.2.2.1 _ k_448) rfl (qR.1 _ 6 _ rfl) d_Machine_undo_22 ?_
        refine mv_iload_n (pc := 25) B d_Machine_undo_25 rfl 0 rfl ?_
        refine mv_lald (pc := 26) B rfl (i32_in (by omega) (by omega)) d_Machine_undo_26 ?_
        refine mv_last (pc := 27) B rfl (i32_in hs0 hs1) d_Machine_undo_27 ?_
        refine mv_iinc (pc := 28) (j := 0) (v := -1) B d_Machine_undo_28 rfl (by decide) (by decide) rfl ?_
        refine mv_goto (pc := 31) (tgt := 7) B d_Machine_undo_31 rfl ?_
        refine mv_lpick [0, 1] rfl ?_
        exact go _
  refine mv_aload_n (pc := 0) B d_Machine_undo_0 rfl 0 rfl ?_
  refine mv_getI (pc := 1) (ci := 9) (C := R_Machine) (T := F_Machine) (N := 13) B 7 rfl rfl (by decide) i_Machine (B.2.2.2.1 _ k_449) rfl d_Machine_undo_1 ?_
  refine mv_iconst (pc := 4) (v := 1) B d_Machine_undo_4 (by decide) ?_
  refine mv_isub (pc := 5) B d_Machine_undo_5 ?_
  refine mv_topi (fun y5 ey5 => ?_)
  have fy5 := i32_subE ey5 (by (try simp only [Int32.reduceToInt]); omega) (by (try simp only [Int32.reduceToInt]); omega)
  try simp only [Int32.reduceToInt] at fy5
  refine mv_istore_n (pc := 6) B d_Machine_undo_6 rfl (by decide) rfl ?_
  refine mv_lpick [0, 1] rfl ?_
  exact lp _ _ _ (by omega) (by omega) Fr.rf hR (Nat.lt_succ_self _)
set_option maxHeartbeats 4000000 in
set_option maxRecDepth 100000 in
theorem c_Machine_undo_c (l : Launch) {dA : FieldType → ClassId} {D : va_G} {al : Nat → Nat} {sk sv : Nat → Nat} (hi : mv_inj (mg dA D al me)) (σ : mv_H) (hR : Rf 145 (mv_r σ)) (u : Nat) (hU : Un σ u) : mv_C l y_Machine_undo (Cond.code y_Machine_undo b_Machine_undo 2 (Option.none : Option Jvm.ClassFile.FieldType) :: ma) ({ frames := 0, cells := 0, slots := 0, locals := 0 }) (mg dA D al me) (mK sk sv) [.ref (al 64)] σ (mv_Rv (fun σ1 => F65 σ σ1)) := by
  refine mv_C.ofV (cc := b_Machine_undo) (nL := 2) (ret := (Option.none : Option Jvm.ClassFile.FieldType)) (by decide +kernel) rfl hi (Nat.le_of_ble_eq_true rfl) ?_
  intro p e s m below meth c B hNs hr hnm hno
  have hu0 := hU.1
  have hu1 := hU.2.1
  have lp : ∀ (nn : Nat) (τ : mv_H) (jj : Int32) (q0 : -1 ≤ jj.toInt) (q1 : jj.toInt < u) (qF : F65 σ τ) (qR : Rf 145 (mv_r τ)), (jj.toInt + 1).toNat < nn → mv_V p l e ({ frames := 0, cells := 0, slots := 0, locals := 0 }) s m ([.ref (al 64)] : List Value).toArray below meth c (mg dA D al me) 2 0 0 (mv_Q (mg dA D al me) below s 0 0 (mv_Rv (fun σ1 => F65 σ σ1))) τ 7 [(1, .int jj), (0, .ref (al 64))] [] := by
    intro nn
    induction nn with
    | zero => intro τ jj q0 q1 qF qR hm; exact absurd hm (Nat.not_lt_zero _)
    | succ nn ih =>
      intro τ jj q0 q1 qF qR hm
      refine mv_iload_n (pc := 7) B d_Machine_undo_7 rfl 0 rfl ?_
      refine mv_if_lt (pc := 8) (tgt := 34) B d_Machine_undo_8 rfl (fun h8 => ?_) (fun h8 => ?_)
      · skip
        skip
        exact mv_vret (pc := 34) B hr d_Machine_undo_34 (Nat.le_refl _) (Nat.le_refl _) ⟨rfl, qF⟩
      · skip
        rw [Int32.lt_iff_toInt_lt] at h8
        simp only [Int32.reduceToInt] at h8
        have ejj := i32_cl (x := jj) (by omega)
        have hs := hU.2.2 jj.toNatClampNeg (by omega)
        have es : mv_a τ 68 = mv_a σ 68 := qF.2.1 _ (fun q => q.elim)
        have w2 : (jj + -1).toInt = jj.toInt - 1 := by exact i32_add (x := jj) (y := -1) (by show -2147483648 ≤ jj.toInt + -1; omega) (by show jj.toInt + -1 < 2147483648; omega)
        have hs0 : 0 ≤ (mv_a τ 68 jj.toNatClampNeg).toInt := by rw [es]; exact hs.1
        have hs1 : (mv_a τ 68 jj.toNatClampNeg).toInt < 65600 := by rw [es]; exact hs.2
        have go := fun v9 => ih (mv_sb τ 65 (mv_a τ 68 jj.toNatClampNeg).toNatClampNeg v9) (jj + -1) (by omega) (by omega) (qF.sb rfl) qR (by omega)
        refine mv_aload_n (pc := 11) B d_Machine_undo_11 rfl 1 rfl ?_
        refine mv_getR (pc := 12) (ci := 9) (C := R_Machine) (T := F_Machine) (N := 13) B 1 rfl rfl (by decide) i_Machine (B.2.2.2.1 _ k_442) rfl (qR.1 _ 1 _ rfl) d_Machine_undo_12 ?_
        refine mv_aload_n (pc := 15) B d_Machine_undo_15 rfl 1 rfl ?_
        refine mv_getR (pc := 16) (ci := 9) (C := R_Machine) (T := F_Machine) (N := 13) B 5 rfl rfl (by decide) i_Machine (B.2.2.2.1 _ k_447) rfl (qR.1 _ 5 _ rfl) d_Machine_undo_16 ?_
        refine mv_iload_n (pc := 19) B d_Machine_undo_19 rfl 0 rfl ?_
        refine mv_iald (pc := 20) B rfl (i32_in (by omega) (by omega)) d_Machine_undo_20 ?_
        refine mv_aload_n (pc := 21) B d_Machine_undo_21 rfl 1 rfl ?_
        refine mv_getR (pc := 22) (ci := 9) (C := R_Machine) (T := F_Machine) (N := 13) B 6 rfl rfl (by decide) i_Machine (B.2.2.2.1 _ k_448) rfl (qR.1 _ 6 _ rfl) d_Machine_undo_22 ?_
        refine mv_iload_n (pc := 25) B d_Machine_undo_25 rfl 0 rfl ?_
        refine mv_lald (pc := 26) B rfl (i32_in (by omega) (by omega)) d_Machine_undo_26 ?_
        refine mv_last (pc := 27) B rfl (i32_in hs0 hs1) d_Machine_undo_27 ?_
        refine mv_iinc (pc := 28) (j := 0) (v := -1) B d_Machine_undo_28 rfl (by decide) (by decide) rfl ?_
        refine mv_goto (pc := 31) (tgt := 7) B d_Machine_undo_31 rfl ?_
        refine mv_lpick [0, 1] rfl ?_
        exact go _
  refine mv_aload_n (pc := 0) B d_Machine_undo_0 rfl 0 rfl ?_
  refine mv_getI (pc := 1) (ci := 9) (C := R_Machine) (T := F_Machine) (N := 13) B 7 rfl rfl (by decide) i_Machine (B.2.2.2.1 _ k_449) rfl d_Machine_undo_1 ?_
  refine mv_iconst (pc := 4) (v := 1) B d_Machine_undo_4 (by decide) ?_
  refine mv_isub (pc := 5) B d_Machine_undo_5 ?_
  refine mv_topi (fun y5 ey5 => ?_)
  have fy5 := i32_subE ey5 (by (try simp only [Int32.reduceToInt]); omega) (by (try simp only [Int32.reduceToInt]); omega)
  try simp only [Int32.reduceToInt] at fy5
  refine mv_istore_n (pc := 6) B d_Machine_undo_6 rfl (by decide) rfl ?_
  refine mv_lpick [0, 1] rfl ?_
  exact lp _ _ _ (by omega) (by omega) Fr.rf hR (Nat.lt_succ_self _)
def y_Machine_goForth : MethodName := ⟨"MachineLoom$Machine", "goForth", "()V"⟩
abbrev b_Machine_goForth : ByteArray := prog_5_method_8_code
theorem kc_Machine_goForth : Cond.code y_Machine_goForth b_Machine_goForth 2 (Option.none : Option Jvm.ClassFile.FieldType) ∈ ma := ma_of (tb_7 _ (List.mem_of_getElem? (i := 198) rfl)) rfl
theorem k_312 : (Jvm.Cond.fieldLink "MachineLoom$Machine" (119 : Nat) "MachineLoom$Program" "length" "I") ∈ ma := ma_of (tb_2 _ (List.mem_of_getElem? (i := 72) rfl)) rfl
theorem d_Machine_goForth_0 : decode b_Machine_goForth 0 = .ok (.aload_n 0, 1) := by decide +kernel
theorem d_Machine_goForth_1 : decode b_Machine_goForth 1 = .ok (.getfield 29, 3) := by decide +kernel
theorem d_Machine_goForth_4 : decode b_Machine_goForth 4 = .ok (.getfield 125, 3) := by decide +kernel
theorem d_Machine_goForth_7 : decode b_Machine_goForth 7 = .ok (.istore_n 1, 1) := by decide +kernel
theorem d_Machine_goForth_8 : decode b_Machine_goForth 8 = .ok (.iload_n 1, 1) := by decide +kernel
theorem d_Machine_goForth_9 : decode b_Machine_goForth 9 = .ok (.ifCond .lt (42), 3) := by decide +kernel
theorem d_Machine_goForth_12 : decode b_Machine_goForth 12 = .ok (.aload_n 0, 1) := by decide +kernel
theorem d_Machine_goForth_13 : decode b_Machine_goForth 13 = .ok (.getfield 96, 3) := by decide +kernel
theorem d_Machine_goForth_16 : decode b_Machine_goForth 16 = .ok (.ifCond .ne (35), 3) := by decide +kernel
theorem d_Machine_goForth_19 : decode b_Machine_goForth 19 = .ok (.aload_n 0, 1) := by decide +kernel
theorem d_Machine_goForth_20 : decode b_Machine_goForth 20 = .ok (.iload_n 1, 1) := by decide +kernel
theorem d_Machine_goForth_21 : decode b_Machine_goForth 21 = .ok (.iconst 0, 1) := by decide +kernel
theorem d_Machine_goForth_22 : decode b_Machine_goForth 22 = .ok (.aload_n 0, 1) := by decide +kernel
theorem d_Machine_goForth_23 : decode b_Machine_goForth 23 = .ok (.getfield 10, 3) := by decide +kernel
theorem d_Machine_goForth_26 : decode b_Machine_goForth 26 = .ok (.aload_n 0, 1) := by decide +kernel
theorem d_Machine_goForth_27 : decode b_Machine_goForth 27 = .ok (.getfield 29, 3) := by decide +kernel
theorem d_Machine_goForth_30 : decode b_Machine_goForth 30 = .ok (.getfield 55, 3) := by decide +kernel
theorem d_Machine_goForth_33 : decode b_Machine_goForth 33 = .ok (.iload_n 1, 1) := by decide +kernel
theorem d_Machine_goForth_34 : decode b_Machine_goForth 34 = .ok (.iaload, 1) := by decide +kernel
theorem d_Machine_goForth_35 : decode b_Machine_goForth 35 = .ok (.laload, 1) := by decide +kernel
theorem d_Machine_goForth_36 : decode b_Machine_goForth 36 = .ok (.aload_n 0, 1) := by decide +kernel
theorem d_Machine_goForth_37 : decode b_Machine_goForth 37 = .ok (.getfield 29, 3) := by decide +kernel
theorem d_Machine_goForth_40 : decode b_Machine_goForth 40 = .ok (.getfield 119, 3) := by decide +kernel
theorem d_Machine_goForth_43 : decode b_Machine_goForth 43 = .ok (.bipush 8, 2) := by decide +kernel
theorem d_Machine_goForth_45 : decode b_Machine_goForth 45 = .ok (.idiv, 1) := by decide +kernel
theorem d_Machine_goForth_46 : decode b_Machine_goForth 46 = .ok (.i2l, 1) := by decide +kernel
theorem d_Machine_goForth_47 : decode b_Machine_goForth 47 = .ok (.ladd, 1) := by decide +kernel
theorem d_Machine_goForth_48 : decode b_Machine_goForth 48 = .ok (.invokevirtual 139, 3) := by decide +kernel
theorem d_Machine_goForth_51 : decode b_Machine_goForth 51 = .ok (.return_, 1) := by decide +kernel
set_option maxHeartbeats 4000000 in
set_option maxRecDepth 100000 in
theorem c_Machine_goForth_a (l : Launch) {dA : FieldType → ClassId} {D : va_G} {al : Nat → Nat} {ext : mv_Sh} {sk sv : Nat → Nat} (hi : mv_inj (mg dA D al ext)) (σ : mv_H) (hR : Rf 32 (mv_r σ)) (th sl : Nat) (hT : Th 32 σ th sl) : mv_C l y_Machine_goForth (Cond.code y_Machine_goForth b_Machine_goForth 2 (Option.none : Option Jvm.ClassFile.FieldType) :: ma) ({ frames := 2, cells := 0, slots := 0, locals := 44 }) (mg dA D al ext) (mK sk sv) [.ref (al 64)] σ (mv_Rv (fun σ1 => F65 σ σ1)) := by
  refine mv_C.ofV (cc := b_Machine_goForth) (nL := 2) (ret := (Option.none : Option Jvm.ClassFile.FieldType)) (by decide +kernel) rfl hi (Nat.le_of_ble_eq_true rfl) ?_
  intro p e s m below meth c B hNs hr hnm hno
  refine mv_aload_n (pc := 0) B d_Machine_goForth_0 rfl 0 rfl ?_
  refine mv_getR (pc := 1) (ci := 9) (C := R_Machine) (T := F_Machine) (N := 13) B 0 rfl rfl (by decide) i_Machine (B.2.2.2.1 _ k_440) rfl hR.2.2 d_Machine_goForth_1 ?_
  refine mv_getI (pc := 4) (ci := 7) (C := R_Program) (T := F_Program) (N := 19) B 8 rfl rfl (by decide) i_Program (B.2.2.2.1 _ k_338) rfl d_Machine_goForth_4 ?_
  refine mv_istore_n (pc := 7) B d_Machine_goForth_7 rfl (by decide) rfl ?_
  refine mv_iload_n (pc := 8) B d_Machine_goForth_8 rfl 0 rfl ?_
  refine mv_if_lt (pc := 9) (tgt := 51) B d_Machine_goForth_9 rfl (fun h9 => ?_) (fun h9 => ?_)
  · skip
    skip
    exact mv_vret (pc := 51) B hr d_Machine_goForth_51 (Nat.le_refl _) (Nat.le_refl _) ⟨rfl, by first | exact Fr.rf | exact h48⟩
  · skip
    rw [Int32.lt_iff_toInt_lt] at h9
    simp only [Int32.reduceToInt] at h9
    have ht9 := hT.2.2.2.2.2.2.2.resolve_left (fun q => h9 q.1)
    have hr9 := i32_cl (x := mv_i σ 32 8) ht9.1
    obtain ⟨c9, f9, hc9, hf9, hs1, hs2⟩ := hT.2.2.2.2.2.2.1 (mv_i σ 32 8).toNatClampNeg (by omega)
    have hf9 : (mv_a σ 35 (mv_i σ 32 8).toNatClampNeg).toInt = f9 := hf9
    have hsl := hT.2.2.2.1
    have ht64 := hT.2.1
    have i1 : 0 ≤ (mv_a σ 35 (mv_i σ 32 8).toNatClampNeg).toInt := by omega
    have i2 : (mv_a σ 35 (mv_i σ 32 8).toNatClampNeg).toInt + (0 : Int32).toInt < 65600 := by show (mv_a σ 35 (mv_i σ 32 8).toNatClampNeg).toInt + 0 < 65600; omega
    refine mv_aload_n (pc := 12) B d_Machine_goForth_12 rfl 1 rfl ?_
    refine mv_getI (pc := 13) (ci := 9) (C := R_Machine) (T := F_Machine) (N := 13) B 8 rfl rfl (by decide) i_Machine (B.2.2.2.1 _ k_450) rfl d_Machine_goForth_13 ?_
    refine mv_if_ne (pc := 16) (tgt := 51) B d_Machine_goForth_16 rfl (fun h16 => ?_) (fun h16 => ?_)
    · skip
      exact mv_vret (pc := 51) B hr d_Machine_goForth_51 (Nat.le_refl _) (Nat.le_refl _) ⟨rfl, by first | exact Fr.rf | exact h48⟩
    · skip
      refine mv_aload_n (pc := 19) B d_Machine_goForth_19 rfl 1 rfl ?_
      refine mv_iload_n (pc := 20) B d_Machine_goForth_20 rfl 0 rfl ?_
      refine mv_iconst (pc := 21) (v := 0) B d_Machine_goForth_21 (by decide) ?_
      refine mv_aload_n (pc := 22) B d_Machine_goForth_22 rfl 1 rfl ?_
      refine mv_getR (pc := 23) (ci := 9) (C := R_Machine) (T := F_Machine) (N := 13) B 1 rfl rfl (by decide) i_Machine (B.2.2.2.1 _ k_442) rfl (hR.1 _ 1 _ rfl) d_Machine_goForth_23 ?_
      refine mv_aload_n (pc := 26) B d_Machine_goForth_26 rfl 1 rfl ?_
      refine mv_getR (pc := 27) (ci := 9) (C := R_Machine) (T := F_Machine) (N := 13) B 0 rfl rfl (by decide) i_Machine (B.2.2.2.1 _ k_440) rfl hR.2.2 d_Machine_goForth_27 ?_
      refine mv_getR (pc := 30) (ci := 7) (C := R_Program) (T := F_Program) (N := 19) B 4 rfl rfl (by decide) i_Program (B.2.2.2.1 _ k_327) rfl (hR.2.1 _ 4 35 rfl) d_Machine_goForth_30 ?_
      refine mv_iload_n (pc := 33) B d_Machine_goForth_33 rfl 0 rfl ?_
      refine mv_iald (pc := 34) B rfl (i32_in (by omega) (by omega)) d_Machine_goForth_34 ?_
      refine mv_lald (pc := 35) B rfl (i32_in (by omega) (by omega)) d_Machine_goForth_35 ?_
      refine mv_aload_n (pc := 36) B d_Machine_goForth_36 rfl 1 rfl ?_
      refine mv_getR (pc := 37) (ci := 9) (C := R_Machine) (T := F_Machine) (N := 13) B 0 rfl rfl (by decide) i_Machine (B.2.2.2.1 _ k_440) rfl hR.2.2 d_Machine_goForth_37 ?_
      refine mv_getI (pc := 40) (ci := 7) (C := R_Program) (T := F_Program) (N := 19) B 0 rfl rfl (by decide) i_Program (B.2.2.2.1 _ k_312) rfl d_Machine_goForth_40 ?_
      refine mv_bipush (pc := 43) (v := 8) B d_Machine_goForth_43 (by decide) ?_
      refine mv_idiv (pc := 45) B d_Machine_goForth_45 (by decide) ?_
      refine mv_i2l (pc := 46) B d_Machine_goForth_46 ?_
      refine mv_ladd (pc := 47) B d_Machine_goForth_47 ?_
      refine mv_callVv (pc := 48) (n := 3) (ci := 9) (C := R_Machine) B (mK_ok sk sv) hNs rfl rfl (c_Machine_put_a l hi _ _ _ _ hR th sl hT (mv_i σ 32 8).toNatClampNeg hr9.symm (by omega) (by decide) i1 i2) rfl (ma_goodc kc_Machine_put) (B.2.2.2.1 _ k_1600) (B.2.2.2.1 _ k_1601) (B.2.2.2.1 _ k_1602) (B.2.2.2.1 _ k_11) ⟨by decide +kernel, by decide +kernel, by decide +kernel⟩ rfl d_Machine_goForth_48 rfl (Nat.le_of_ble_eq_true rfl) ⟨by decide, by decide⟩ ⟨by decide, by decide⟩ ⟨by decide, by decide⟩ (mv_noH hno _) (fun σ48 h48 => ?_)
      have hend := h48
      exact mv_vret (pc := 51) B hr d_Machine_goForth_51 (Nat.le_refl _) (Nat.le_refl _) ⟨rfl, by first | exact Fr.rf | exact h48⟩
set_option maxHeartbeats 4000000 in
set_option maxRecDepth 100000 in
theorem c_Machine_goForth_b (l : Launch) {dA : FieldType → ClassId} {D : va_G} {al : Nat → Nat} {ext : mv_Sh} {sk sv : Nat → Nat} (hi : mv_inj (mg dA D al ext)) (σ : mv_H) (hR : Rf 48 (mv_r σ)) (th sl : Nat) (hT : Th 48 σ th sl) : mv_C l y_Machine_goForth (Cond.code y_Machine_goForth b_Machine_goForth 2 (Option.none : Option Jvm.ClassFile.FieldType) :: ma) ({ frames := 2, cells := 0, slots := 0, locals := 44 }) (mg dA D al ext) (mK sk sv) [.ref (al 64)] σ (mv_Rv (fun σ1 => F65 σ σ1)) := by
  refine mv_C.ofV (cc := b_Machine_goForth) (nL := 2) (ret := (Option.none : Option Jvm.ClassFile.FieldType)) (by decide +kernel) rfl hi (Nat.le_of_ble_eq_true rfl) ?_
  intro p e s m below meth c B hNs hr hnm hno
  refine mv_aload_n (pc := 0) B d_Machine_goForth_0 rfl 0 rfl ?_
  refine mv_getR (pc := 1) (ci := 9) (C := R_Machine) (T := F_Machine) (N := 13) B 0 rfl rfl (by decide) i_Machine (B.2.2.2.1 _ k_440) rfl hR.2.2 d_Machine_goForth_1 ?_
  refine mv_getI (pc := 4) (ci := 7) (C := R_Program) (T := F_Program) (N := 19) B 8 rfl rfl (by decide) i_Program (B.2.2.2.1 _ k_338) rfl d_Machine_goForth_4 ?_
  refine mv_istore_n (pc := 7) B d_Machine_goForth_7 rfl (by decide) rfl ?_
  refine mv_iload_n (pc := 8) B d_Machine_goForth_8 rfl 0 rfl ?_
  refine mv_if_lt (pc := 9) (tgt := 51) B d_Machine_goForth_9 rfl (fun h9 => ?_) (fun h9 => ?_)
  · skip
    skip
    exact mv_vret (pc := 51) B hr d_Machine_goForth_51 (Nat.le_refl _) (Nat.le_refl _) ⟨rfl, by first | exact Fr.rf | exact h48⟩
  · skip
    rw [Int32.lt_iff_toInt_lt] at h9
    simp only [Int32.reduceToInt] at h9
    have ht9 := hT.2.2.2.2.2.2.2.resolve_left (fun q => h9 q.1)
    have hr9 := i32_cl (x := mv_i σ 48 8) ht9.1
    obtain ⟨c9, f9, hc9, hf9, hs1, hs2⟩ := hT.2.2.2.2.2.2.1 (mv_i σ 48 8).toNatClampNeg (by omega)
    have hf9 : (mv_a σ 51 (mv_i σ 48 8).toNatClampNeg).toInt = f9 := hf9
    have hsl := hT.2.2.2.1
    have ht64 := hT.2.1
    have i1 : 0 ≤ (mv_a σ 51 (mv_i σ 48 8).toNatClampNeg).toInt := by omega
    have i2 : (mv_a σ 51 (mv_i σ 48 8).toNatClampNeg).toInt + (0 : Int32).toInt < 65600 := by show (mv_a σ 51 (mv_i σ 48 8).toNatClampNeg).toInt + 0 < 65600; omega
    refine mv_aload_n (pc := 12) B d_Machine_goForth_12 rfl 1 rfl ?_
    refine mv_getI (pc := 13) (ci := 9) (C := R_Machine) (T := F_Machine) (N := 13) B 8 rfl rfl (by decide) i_Machine (B.2.2.2.1 _ k_450) rfl d_Machine_goForth_13 ?_
    refine mv_if_ne (pc := 16) (tgt := 51) B d_Machine_goForth_16 rfl (fun h16 => ?_) (fun h16 => ?_)
    · skip
      exact mv_vret (pc := 51) B hr d_Machine_goForth_51 (Nat.le_refl _) (Nat.le_refl _) ⟨rfl, by first | exact Fr.rf | exact h48⟩
    · skip
      refine mv_aload_n (pc := 19) B d_Machine_goForth_19 rfl 1 rfl ?_
      refine mv_iload_n (pc := 20) B d_Machine_goForth_20 rfl 0 rfl ?_
      refine mv_iconst (pc := 21) (v := 0) B d_Machine_goForth_21 (by decide) ?_
      refine mv_aload_n (pc := 22) B d_Machine_goForth_22 rfl 1 rfl ?_
      refine mv_getR (pc := 23) (ci := 9) (C := R_Machine) (T := F_Machine) (N := 13) B 1 rfl rfl (by decide) i_Machine (B.2.2.2.1 _ k_442) rfl (hR.1 _ 1 _ rfl) d_Machine_goForth_23 ?_
      refine mv_aload_n (pc := 26) B d_Machine_goForth_26 rfl 1 rfl ?_
      refine mv_getR (pc := 27) (ci := 9) (C := R_Machine) (T := F_Machine) (N := 13) B 0 rfl rfl (by decide) i_Machine (B.2.2.2.1 _ k_440) rfl hR.2.2 d_Machine_goForth_27 ?_
      refine mv_getR (pc := 30) (ci := 7) (C := R_Program) (T := F_Program) (N := 19) B 4 rfl rfl (by decide) i_Program (B.2.2.2.1 _ k_327) rfl (hR.2.1 _ 4 51 rfl) d_Machine_goForth_30 ?_
      refine mv_iload_n (pc := 33) B d_Machine_goForth_33 rfl 0 rfl ?_
      refine mv_iald (pc := 34) B rfl (i32_in (by omega) (by omega)) d_Machine_goForth_34 ?_
      refine mv_lald (pc := 35) B rfl (i32_in (by omega) (by omega)) d_Machine_goForth_35 ?_
      refine mv_aload_n (pc := 36) B d_Machine_goForth_36 rfl 1 rfl ?_
      refine mv_getR (pc := 37) (ci := 9) (C := R_Machine) (T := F_Machine) (N := 13) B 0 rfl rfl (by decide) i_Machine (B.2.2.2.1 _ k_440) rfl hR.2.2 d_Machine_goForth_37 ?_
      refine mv_getI (pc := 40) (ci := 7) (C := R_Program) (T := F_Program) (N := 19) B 0 rfl rfl (by decide) i_Program (B.2.2.2.1 _ k_312) rfl d_Machine_goForth_40 ?_
      refine mv_bipush (pc := 43) (v := 8) B d_Machine_goForth_43 (by decide) ?_
      refine mv_idiv (pc := 45) B d_Machine_goForth_45 (by decide) ?_
      refine mv_i2l (pc := 46) B d_Machine_goForth_46 ?_
      refine mv_ladd (pc := 47) B d_Machine_goForth_47 ?_
      refine mv_callVv (pc := 48) (n := 3) (ci := 9) (C := R_Machine) B (mK_ok sk sv) hNs rfl rfl (c_Machine_put_b l hi _ _ _ _ hR th sl hT (mv_i σ 48 8).toNatClampNeg hr9.symm (by omega) (by decide) i1 i2) rfl (ma_goodc kc_Machine_put) (B.2.2.2.1 _ k_1600) (B.2.2.2.1 _ k_1601) (B.2.2.2.1 _ k_1602) (B.2.2.2.1 _ k_11) ⟨by decide +kernel, by decide +kernel, by decide +kernel⟩ rfl d_Machine_goForth_48 rfl (Nat.le_of_ble_eq_true rfl) ⟨by decide, by decide⟩ ⟨by decide, by decide⟩ ⟨by decide, by decide⟩ (mv_noH hno _) (fun σ48 h48 => ?_)
      have hend := h48
      exact mv_vret (pc := 51) B hr d_Machine_goForth_51 (Nat.le_refl _) (Nat.le_refl _) ⟨rfl, by first | exact Fr.rf | exact h48⟩
set_option maxHeartbeats 4000000 in
set_option maxRecDepth 100000 in
theorem c_Machine_goForth_c (l : Launch) {dA : FieldType → ClassId} {D : va_G} {al : Nat → Nat} {sk sv : Nat → Nat} (hi : mv_inj (mg dA D al me)) (σ : mv_H) (hR : Rf 145 (mv_r σ)) (th sl : Nat) (hT : Th 145 σ th sl) : mv_C l y_Machine_goForth (Cond.code y_Machine_goForth b_Machine_goForth 2 (Option.none : Option Jvm.ClassFile.FieldType) :: ma) ({ frames := 2, cells := 0, slots := 0, locals := 44 }) (mg dA D al me) (mK sk sv) [.ref (al 64)] σ (mv_Rv (fun σ1 => F65 σ σ1)) := by
  refine mv_C.ofV (cc := b_Machine_goForth) (nL := 2) (ret := (Option.none : Option Jvm.ClassFile.FieldType)) (by decide +kernel) rfl hi (Nat.le_of_ble_eq_true rfl) ?_
  intro p e s m below meth c B hNs hr hnm hno
  refine mv_aload_n (pc := 0) B d_Machine_goForth_0 rfl 0 rfl ?_
  refine mv_getR (pc := 1) (ci := 9) (C := R_Machine) (T := F_Machine) (N := 13) B 0 rfl rfl (by decide) i_Machine (B.2.2.2.1 _ k_440) rfl hR.2.2 d_Machine_goForth_1 ?_
  refine mv_getI (pc := 4) (ci := 7) (C := R_Program) (T := F_Program) (N := 19) B 8 rfl rfl (by decide) i_Program (B.2.2.2.1 _ k_338) rfl d_Machine_goForth_4 ?_
  refine mv_istore_n (pc := 7) B d_Machine_goForth_7 rfl (by decide) rfl ?_
  refine mv_iload_n (pc := 8) B d_Machine_goForth_8 rfl 0 rfl ?_
  refine mv_if_lt (pc := 9) (tgt := 51) B d_Machine_goForth_9 rfl (fun h9 => ?_) (fun h9 => ?_)
  · skip
    skip
    exact mv_vret (pc := 51) B hr d_Machine_goForth_51 (Nat.le_refl _) (Nat.le_refl _) ⟨rfl, by first | exact Fr.rf | exact h48⟩
  · skip
    rw [Int32.lt_iff_toInt_lt] at h9
    simp only [Int32.reduceToInt] at h9
    have ht9 := hT.2.2.2.2.2.2.2.resolve_left (fun q => h9 q.1)
    have hr9 := i32_cl (x := mv_i σ 145 8) ht9.1
    obtain ⟨c9, f9, hc9, hf9, hs1, hs2⟩ := hT.2.2.2.2.2.2.1 (mv_i σ 145 8).toNatClampNeg (by omega)
    have hf9 : (mv_a σ 148 (mv_i σ 145 8).toNatClampNeg).toInt = f9 := hf9
    have hsl := hT.2.2.2.1
    have ht64 := hT.2.1
    have i1 : 0 ≤ (mv_a σ 148 (mv_i σ 145 8).toNatClampNeg).toInt := by omega
    have i2 : (mv_a σ 148 (mv_i σ 145 8).toNatClampNeg).toInt + (0 : Int32).toInt < 65600 := by show (mv_a σ 148 (mv_i σ 145 8).toNatClampNeg).toInt + 0 < 65600; omega
    refine mv_aload_n (pc := 12) B d_Machine_goForth_12 rfl 1 rfl ?_
    refine mv_getI (pc := 13) (ci := 9) (C := R_Machine) (T := F_Machine) (N := 13) B 8 rfl rfl (by decide) i_Machine (B.2.2.2.1 _ k_450) rfl d_Machine_goForth_13 ?_
    refine mv_if_ne (pc := 16) (tgt := 51) B d_Machine_goForth_16 rfl (fun h16 => ?_) (fun h16 => ?_)
    · skip
      exact mv_vret (pc := 51) B hr d_Machine_goForth_51 (Nat.le_refl _) (Nat.le_refl _) ⟨rfl, by first | exact Fr.rf | exact h48⟩
    · skip
      refine mv_aload_n (pc := 19) B d_Machine_goForth_19 rfl 1 rfl ?_
      refine mv_iload_n (pc := 20) B d_Machine_goForth_20 rfl 0 rfl ?_
      refine mv_iconst (pc := 21) (v := 0) B d_Machine_goForth_21 (by decide) ?_
      refine mv_aload_n (pc := 22) B d_Machine_goForth_22 rfl 1 rfl ?_
      refine mv_getR (pc := 23) (ci := 9) (C := R_Machine) (T := F_Machine) (N := 13) B 1 rfl rfl (by decide) i_Machine (B.2.2.2.1 _ k_442) rfl (hR.1 _ 1 _ rfl) d_Machine_goForth_23 ?_
      refine mv_aload_n (pc := 26) B d_Machine_goForth_26 rfl 1 rfl ?_
      refine mv_getR (pc := 27) (ci := 9) (C := R_Machine) (T := F_Machine) (N := 13) B 0 rfl rfl (by decide) i_Machine (B.2.2.2.1 _ k_440) rfl hR.2.2 d_Machine_goForth_27 ?_
      refine mv_getR (pc := 30) (ci := 7) (C := R_Program) (T := F_Program) (N := 19) B 4 rfl rfl (by decide) i_Program (B.2.2.2.1 _ k_327) rfl (hR.2.1 _ 4 148 rfl) d_Machine_goForth_30 ?_
      refine mv_iload_n (pc := 33) B d_Machine_goForth_33 rfl 0 rfl ?_
      refine mv_iald (pc := 34) B rfl (i32_in (by omega) (by omega)) d_Machine_goForth_34 ?_
      refine mv_lald (pc := 35) B rfl (i32_in (by omega) (by omega)) d_Machine_goForth_35 ?_
      refine mv_aload_n (pc := 36) B d_Machine_goForth_36 rfl 1 rfl ?_
      refine mv_getR (pc := 37) (ci := 9) (C := R_Machine) (T := F_Machine) (N := 13) B 0 rfl rfl (by decide) i_Machine (B.2.2.2.1 _ k_440) rfl hR.2.2 d_Machine_goForth_37 ?_
      refine mv_getI (pc := 40) (ci := 7) (C := R_Program) (T := F_Program) (N := 19) B 0 rfl rfl (by decide) i_Program (B.2.2.2.1 _ k_312) rfl d_Machine_goForth_40 ?_
      refine mv_bipush (pc := 43) (v := 8) B d_Machine_goForth_43 (by decide) ?_
      refine mv_idiv (pc := 45) B d_Machine_goForth_45 (by decide) ?_
      refine mv_i2l (pc := 46) B d_Machine_goForth_46 ?_
      refine mv_ladd (pc := 47) B d_Machine_goForth_47 ?_
      refine mv_callVv (pc := 48) (n := 3) (ci := 9) (C := R_Machine) B (mK_ok sk sv) hNs rfl rfl (c_Machine_put_c l hi _ _ _ _ hR th sl hT (mv_i σ 145 8).toNatClampNeg hr9.symm (by omega) (by decide) i1 i2) rfl (ma_goodc kc_Machine_put) (B.2.2.2.1 _ k_1600) (B.2.2.2.1 _ k_1601) (B.2.2.2.1 _ k_1602) (B.2.2.2.1 _ k_11) ⟨by decide +kernel, by decide +kernel, by decide +kernel⟩ rfl d_Machine_goForth_48 rfl (Nat.le_of_ble_eq_true rfl) ⟨by decide, by decide⟩ ⟨by decide, by decide⟩ ⟨by decide, by decide⟩ (mv_noH hno _) (fun σ48 h48 => ?_)
      have hend := h48
      exact mv_vret (pc := 51) B hr d_Machine_goForth_51 (Nat.le_refl _) (Nat.le_refl _) ⟨rfl, by first | exact Fr.rf | exact h48⟩
def y_Machine_wordAt : MethodName := ⟨"MachineLoom$Machine", "wordAt", "(II)J"⟩
abbrev b_Machine_wordAt : ByteArray := prog_5_method_7_code
theorem kc_Machine_wordAt : Cond.code y_Machine_wordAt b_Machine_wordAt 6 (Option.some Jvm.ClassFile.FieldType.long) ∈ ma := ma_of (tb_8 _ (List.mem_of_getElem? (i := 120) rfl)) rfl
theorem d_Machine_wordAt_0 : decode b_Machine_wordAt 0 = .ok (.lconst 0, 1) := by decide +kernel
theorem d_Machine_wordAt_1 : decode b_Machine_wordAt 1 = .ok (.lstore_n 3, 1) := by decide +kernel
theorem d_Machine_wordAt_2 : decode b_Machine_wordAt 2 = .ok (.iload_n 2, 1) := by decide +kernel
theorem d_Machine_wordAt_3 : decode b_Machine_wordAt 3 = .ok (.iconst 1, 1) := by decide +kernel
theorem d_Machine_wordAt_4 : decode b_Machine_wordAt 4 = .ok (.isub, 1) := by decide +kernel
theorem d_Machine_wordAt_5 : decode b_Machine_wordAt 5 = .ok (.istore 5, 2) := by decide +kernel
theorem d_Machine_wordAt_7 : decode b_Machine_wordAt 7 = .ok (.iload 5, 2) := by decide +kernel
theorem d_Machine_wordAt_9 : decode b_Machine_wordAt 9 = .ok (.ifCond .lt (24), 3) := by decide +kernel
theorem d_Machine_wordAt_12 : decode b_Machine_wordAt 12 = .ok (.lload_n 3, 1) := by decide +kernel
theorem d_Machine_wordAt_13 : decode b_Machine_wordAt 13 = .ok (.bipush 8, 2) := by decide +kernel
theorem d_Machine_wordAt_15 : decode b_Machine_wordAt 15 = .ok (.lshl, 1) := by decide +kernel
theorem d_Machine_wordAt_16 : decode b_Machine_wordAt 16 = .ok (.aload_n 0, 1) := by decide +kernel
theorem d_Machine_wordAt_17 : decode b_Machine_wordAt 17 = .ok (.getfield 10, 3) := by decide +kernel
theorem d_Machine_wordAt_20 : decode b_Machine_wordAt 20 = .ok (.iload_n 1, 1) := by decide +kernel
theorem d_Machine_wordAt_21 : decode b_Machine_wordAt 21 = .ok (.iload 5, 2) := by decide +kernel
theorem d_Machine_wordAt_23 : decode b_Machine_wordAt 23 = .ok (.iadd, 1) := by decide +kernel
theorem d_Machine_wordAt_24 : decode b_Machine_wordAt 24 = .ok (.laload, 1) := by decide +kernel
theorem d_Machine_wordAt_25 : decode b_Machine_wordAt 25 = .ok (.lor, 1) := by decide +kernel
theorem d_Machine_wordAt_26 : decode b_Machine_wordAt 26 = .ok (.lstore_n 3, 1) := by decide +kernel
theorem d_Machine_wordAt_27 : decode b_Machine_wordAt 27 = .ok (.iinc 5 (-1), 3) := by decide +kernel
theorem d_Machine_wordAt_30 : decode b_Machine_wordAt 30 = .ok (.goto (-23), 3) := by decide +kernel
theorem d_Machine_wordAt_33 : decode b_Machine_wordAt 33 = .ok (.lload_n 3, 1) := by decide +kernel
theorem d_Machine_wordAt_34 : decode b_Machine_wordAt 34 = .ok (.lreturn, 1) := by decide +kernel
set_option maxHeartbeats 4000000 in
set_option maxRecDepth 100000 in
theorem c_Machine_wordAt_a (l : Launch) {dA : FieldType → ClassId} {D : va_G} {al : Nat → Nat} {ext : mv_Sh} {sk sv : Nat → Nat} (hi : mv_inj (mg dA D al ext)) (σ : mv_H) (s9 b9 : Int32) (hR : Rf 32 (mv_r σ)) (g0 : 0 ≤ s9.toInt) (g1 : 0 ≤ b9.toInt) (g2 : s9.toInt + b9.toInt ≤ 65600) : mv_C l y_Machine_wordAt (Cond.code y_Machine_wordAt b_Machine_wordAt 6 (Option.some Jvm.ClassFile.FieldType.long) :: ma) ({ frames := 0, cells := 0, slots := 0, locals := 0 }) (mg dA D al ext) (mK sk sv) [.ref (al 64), .int s9, .int b9] σ (mv_Rl (fun v σ1 => σ1 = σ)) := by
  refine mv_C.ofV (cc := b_Machine_wordAt) (nL := 6) (ret := (Option.some Jvm.ClassFile.FieldType.long)) (by decide +kernel) rfl hi (Nat.le_of_ble_eq_true rfl) ?_
  intro p e s m below meth c B hNs hr hnm hno
  have lp : ∀ (nn : Nat) (jj : Int32) (w9 : Int64) (q0 : -1 ≤ jj.toInt) (q1 : jj.toInt < b9.toInt), (jj.toInt + 1).toNat < nn → mv_V p l e ({ frames := 0, cells := 0, slots := 0, locals := 0 }) s m ([.ref (al 64), .int s9, .int b9] : List Value).toArray below meth c (mg dA D al ext) 6 0 0 (mv_Q (mg dA D al ext) below s 0 0 (mv_Rl (fun v σ1 => σ1 = σ))) σ 7 [(5, .int jj), (3, .long w9), (0, .ref (al 64)), (1, .int s9), (2, .int b9)] [] := by
    intro nn
    induction nn with
    | zero => intro jj w9 q0 q1 hm; exact absurd hm (Nat.not_lt_zero _)
    | succ nn ih =>
      intro jj w9 q0 q1 hm
      refine mv_iload (pc := 7) B d_Machine_wordAt_7 0 rfl ?_
      refine mv_if_lt (pc := 9) (tgt := 33) B d_Machine_wordAt_9 rfl (fun h9 => ?_) (fun h9 => ?_)
      · skip
        refine mv_lload_n (pc := 33) B d_Machine_wordAt_33 rfl 1 rfl ?_
        exact mv_lret (pc := 34) B hr d_Machine_wordAt_34 (Nat.le_refl _) (Nat.le_refl _) ⟨_, rfl, rfl⟩
      · skip
        rw [Int32.lt_iff_toInt_lt] at h9
        simp only [Int32.reduceToInt] at h9
        have w2 : (jj + -1).toInt = jj.toInt - 1 := by exact i32_add (x := jj) (y := -1) (by show -2147483648 ≤ jj.toInt + -1; omega) (by show jj.toInt + -1 < 2147483648; omega)
        have go := fun v9 => ih (jj + -1) v9 (by omega) (by omega) (by omega)
        refine mv_lload_n (pc := 12) B d_Machine_wordAt_12 rfl 1 rfl ?_
        refine mv_bipush (pc := 13) (v := 8) B d_Machine_wordAt_13 (by decide) ?_
        refine mv_lshl (pc := 15) B d_Machine_wordAt_15 ?_
        refine mv_aload_n (pc := 16) B d_Machine_wordAt_16 rfl 2 rfl ?_
        refine mv_getR (pc := 17) (ci := 9) (C := R_Machine) (T := F_Machine) (N := 13) B 1 rfl rfl (by decide) i_Machine (B.2.2.2.1 _ k_442) rfl (hR.1 _ 1 _ rfl) d_Machine_wordAt_17 ?_
        refine mv_iload_n (pc := 20) B d_Machine_wordAt_20 rfl 3 rfl ?_
        refine mv_iload (pc := 21) B d_Machine_wordAt_21 0 rfl ?_
        refine mv_iadd (pc := 23) B d_Machine_wordAt_23 ?_
        refine mv_topi (fun y23 ey23 => ?_)
        have fy23 := i32_addE ey23 (by (try simp only [Int32.reduceToInt]); omega) (by (try simp only [Int32.reduceToInt]); omega)
        try simp only [Int32.reduceToInt] at fy23
        refine mv_lald (pc := 24) B rfl (i32_in (by omega) (by omega)) d_Machine_wordAt_24 ?_
        refine mv_lor (pc := 25) B d_Machine_wordAt_25 ?_
        refine mv_lstore_n (pc := 26) B d_Machine_wordAt_26 rfl (by decide) rfl ?_
        refine mv_iinc (pc := 27) (j := 1) (v := -1) B d_Machine_wordAt_27 rfl (by decide) (by decide) rfl ?_
        refine mv_goto (pc := 30) (tgt := 7) B d_Machine_wordAt_30 rfl ?_
        refine mv_lpick [0, 1, 2, 3, 4] rfl ?_
        exact go _
  refine mv_lconst (pc := 0) (v := 0) B d_Machine_wordAt_0 (by decide) ?_
  refine mv_lstore_n (pc := 1) B d_Machine_wordAt_1 rfl (by decide) rfl ?_
  refine mv_iload_n (pc := 2) B d_Machine_wordAt_2 rfl 3 rfl ?_
  refine mv_iconst (pc := 3) (v := 1) B d_Machine_wordAt_3 (by decide) ?_
  refine mv_isub (pc := 4) B d_Machine_wordAt_4 ?_
  refine mv_topi (fun y4 ey4 => ?_)
  have fy4 := i32_subE ey4 (by (try simp only [Int32.reduceToInt]); omega) (by (try simp only [Int32.reduceToInt]); omega)
  try simp only [Int32.reduceToInt] at fy4
  refine mv_istore (pc := 5) B d_Machine_wordAt_5 (by decide) rfl ?_
  refine mv_lpick [0, 1, 2, 3, 4] rfl ?_
  exact lp _ _ _ (by omega) (by omega) (Nat.lt_succ_self _)
set_option maxHeartbeats 4000000 in
set_option maxRecDepth 100000 in
theorem c_Machine_wordAt_b (l : Launch) {dA : FieldType → ClassId} {D : va_G} {al : Nat → Nat} {ext : mv_Sh} {sk sv : Nat → Nat} (hi : mv_inj (mg dA D al ext)) (σ : mv_H) (s9 b9 : Int32) (hR : Rf 48 (mv_r σ)) (g0 : 0 ≤ s9.toInt) (g1 : 0 ≤ b9.toInt) (g2 : s9.toInt + b9.toInt ≤ 65600) : mv_C l y_Machine_wordAt (Cond.code y_Machine_wordAt b_Machine_wordAt 6 (Option.some Jvm.ClassFile.FieldType.long) :: ma) ({ frames := 0, cells := 0, slots := 0, locals := 0 }) (mg dA D al ext) (mK sk sv) [.ref (al 64), .int s9, .int b9] σ (mv_Rl (fun v σ1 => σ1 = σ)) := by
  refine mv_C.ofV (cc := b_Machine_wordAt) (nL := 6) (ret := (Option.some Jvm.ClassFile.FieldType.long)) (by decide +kernel) rfl hi (Nat.le_of_ble_eq_true rfl) ?_
  intro p e s m below meth c B hNs hr hnm hno
  have lp : ∀ (nn : Nat) (jj : Int32) (w9 : Int64) (q0 : -1 ≤ jj.toInt) (q1 : jj.toInt < b9.toInt), (jj.toInt + 1).toNat < nn → mv_V p l e ({ frames := 0, cells := 0, slots := 0, locals := 0 }) s m ([.ref (al 64), .int s9, .int b9] : List Value).toArray below meth c (mg dA D al ext) 6 0 0 (mv_Q (mg dA D al ext) below s 0 0 (mv_Rl (fun v σ1 => σ1 = σ))) σ 7 [(5, .int jj), (3, .long w9), (0, .ref (al 64)), (1, .int s9), (2, .int b9)] [] := by
    intro nn
    induction nn with
    | zero => intro jj w9 q0 q1 hm; exact absurd hm (Nat.not_lt_zero _)
    | succ nn ih =>
      intro jj w9 q0 q1 hm
      refine mv_iload (pc := 7) B d_Machine_wordAt_7 0 rfl ?_
      refine mv_if_lt (pc := 9) (tgt := 33) B d_Machine_wordAt_9 rfl (fun h9 => ?_) (fun h9 => ?_)
      · skip
        refine mv_lload_n (pc := 33) B d_Machine_wordAt_33 rfl 1 rfl ?_
        exact mv_lret (pc := 34) B hr d_Machine_wordAt_34 (Nat.le_refl _) (Nat.le_refl _) ⟨_, rfl, rfl⟩
      · skip
        rw [Int32.lt_iff_toInt_lt] at h9
        simp only [Int32.reduceToInt] at h9
        have w2 : (jj + -1).toInt = jj.toInt - 1 := by exact i32_add (x := jj) (y := -1) (by show -2147483648 ≤ jj.toInt + -1; omega) (by show jj.toInt + -1 < 2147483648; omega)
        have go := fun v9 => ih (jj + -1) v9 (by omega) (by omega) (by omega)
        refine mv_lload_n (pc := 12) B d_Machine_wordAt_12 rfl 1 rfl ?_
        refine mv_bipush (pc := 13) (v := 8) B d_Machine_wordAt_13 (by decide) ?_
        refine mv_lshl (pc := 15) B d_Machine_wordAt_15 ?_
        refine mv_aload_n (pc := 16) B d_Machine_wordAt_16 rfl 2 rfl ?_
        refine mv_getR (pc := 17) (ci := 9) (C := R_Machine) (T := F_Machine) (N := 13) B 1 rfl rfl (by decide) i_Machine (B.2.2.2.1 _ k_442) rfl (hR.1 _ 1 _ rfl) d_Machine_wordAt_17 ?_
        refine mv_iload_n (pc := 20) B d_Machine_wordAt_20 rfl 3 rfl ?_
        refine mv_iload (pc := 21) B d_Machine_wordAt_21 0 rfl ?_
        refine mv_iadd (pc := 23) B d_Machine_wordAt_23 ?_
        refine mv_topi (fun y23 ey23 => ?_)
        have fy23 := i32_addE ey23 (by (try simp only [Int32.reduceToInt]); omega) (by (try simp only [Int32.reduceToInt]); omega)
        try simp only [Int32.reduceToInt] at fy23
        refine mv_lald (pc := 24) B rfl (i32_in (by omega) (by omega)) d_Machine_wordAt_24 ?_
        refine mv_lor (pc := 25) B d_Machine_wordAt_25 ?_
        refine mv_lstore_n (pc := 26) B d_Machine_wordAt_26 rfl (by decide) rfl ?_
        refine mv_iinc (pc := 27) (j := 1) (v := -1) B d_Machine_wordAt_27 rfl (by decide) (by decide) rfl ?_
        refine mv_goto (pc := 30) (tgt := 7) B d_Machine_wordAt_30 rfl ?_
        refine mv_lpick [0, 1, 2, 3, 4] rfl ?_
        exact go _
  refine mv_lconst (pc := 0) (v := 0) B d_Machine_wordAt_0 (by decide) ?_
  refine mv_lstore_n (pc := 1) B d_Machine_wordAt_1 rfl (by decide) rfl ?_
  refine mv_iload_n (pc := 2) B d_Machine_wordAt_2 rfl 3 rfl ?_
  refine mv_iconst (pc := 3) (v := 1) B d_Machine_wordAt_3 (by decide) ?_
  refine mv_isub (pc := 4) B d_Machine_wordAt_4 ?_
  refine mv_topi (fun y4 ey4 => ?_)
  have fy4 := i32_subE ey4 (by (try simp only [Int32.reduceToInt]); omega) (by (try simp only [Int32.reduceToInt]); omega)
  try simp only [Int32.reduceToInt] at fy4
  refine mv_istore (pc := 5) B d_Machine_wordAt_5 (by decide) rfl ?_
  refine mv_lpick [0, 1, 2, 3, 4] rfl ?_
  exact lp _ _ _ (by omega) (by omega) (Nat.lt_succ_self _)
set_option maxHeartbeats 4000000 in
set_option maxRecDepth 100000 in
theorem c_Machine_wordAt_c (l : Launch) {dA : FieldType → ClassId} {D : va_G} {al : Nat → Nat} {sk sv : Nat → Nat} (hi : mv_inj (mg dA D al me)) (σ : mv_H) (s9 b9 : Int32) (hR : Rf 145 (mv_r σ)) (g0 : 0 ≤ s9.toInt) (g1 : 0 ≤ b9.toInt) (g2 : s9.toInt + b9.toInt ≤ 65600) : mv_C l y_Machine_wordAt (Cond.code y_Machine_wordAt b_Machine_wordAt 6 (Option.some Jvm.ClassFile.FieldType.long) :: ma) ({ frames := 0, cells := 0, slots := 0, locals := 0 }) (mg dA D al me) (mK sk sv) [.ref (al 64), .int s9, .int b9] σ (mv_Rl (fun v σ1 => σ1 = σ)) := by
  refine mv_C.ofV (cc := b_Machine_wordAt) (nL := 6) (ret := (Option.some Jvm.ClassFile.FieldType.long)) (by decide +kernel) rfl hi (Nat.le_of_ble_eq_true rfl) ?_
  intro p e s m below meth c B hNs hr hnm hno
  have lp : ∀ (nn : Nat) (jj : Int32) (w9 : Int64) (q0 : -1 ≤ jj.toInt) (q1 : jj.toInt < b9.toInt), (jj.toInt + 1).toNat < nn → mv_V p l e ({ frames := 0, cells := 0, slots := 0, locals := 0 }) s m ([.ref (al 64), .int s9, .int b9] : List Value).toArray below meth c (mg dA D al me) 6 0 0 (mv_Q (mg dA D al me) below s 0 0 (mv_Rl (fun v σ1 => σ1 = σ))) σ 7 [(5, .int jj), (3, .long w9), (0, .ref (al 64)), (1, .int s9), (2, .int b9)] [] := by
    intro nn
    induction nn with
    | zero => intro jj w9 q0 q1 hm; exact absurd hm (Nat.not_lt_zero _)
    | succ nn ih =>
      intro jj w9 q0 q1 hm
      refine mv_iload (pc := 7) B d_Machine_wordAt_7 0 rfl ?_
      refine mv_if_lt (pc := 9) (tgt := 33) B d_Machine_wordAt_9 rfl (fun h9 => ?_) (fun h9 => ?_)
      · skip
        refine mv_lload_n (pc := 33) B d_Machine_wordAt_33 rfl 1 rfl ?_
        exact mv_lret (pc := 34) B hr d_Machine_wordAt_34 (Nat.le_refl _) (Nat.le_refl _) ⟨_, rfl, rfl⟩
      · skip
        rw [Int32.lt_iff_toInt_lt] at h9
        simp only [Int32.reduceToInt] at h9
        have w2 : (jj + -1).toInt = jj.toInt - 1 := by exact i32_add (x := jj) (y := -1) (by show -2147483648 ≤ jj.toInt + -1; omega) (by show jj.toInt + -1 < 2147483648; omega)
        have go := fun v9 => ih (jj + -1) v9 (by omega) (by omega) (by omega)
        refine mv_lload_n (pc := 12) B d_Machine_wordAt_12 rfl 1 rfl ?_
        refine mv_bipush (pc := 13) (v := 8) B d_Machine_wordAt_13 (by decide) ?_
        refine mv_lshl (pc := 15) B d_Machine_wordAt_15 ?_
        refine mv_aload_n (pc := 16) B d_Machine_wordAt_16 rfl 2 rfl ?_
        refine mv_getR (pc := 17) (ci := 9) (C := R_Machine) (T := F_Machine) (N := 13) B 1 rfl rfl (by decide) i_Machine (B.2.2.2.1 _ k_442) rfl (hR.1 _ 1 _ rfl) d_Machine_wordAt_17 ?_
        refine mv_iload_n (pc := 20) B d_Machine_wordAt_20 rfl 3 rfl ?_
        refine mv_iload (pc := 21) B d_Machine_wordAt_21 0 rfl ?_
        refine mv_iadd (pc := 23) B d_Machine_wordAt_23 ?_
        refine mv_topi (fun y23 ey23 => ?_)
        have fy23 := i32_addE ey23 (by (try simp only [Int32.reduceToInt]); omega) (by (try simp only [Int32.reduceToInt]); omega)
        try simp only [Int32.reduceToInt] at fy23
        refine mv_lald (pc := 24) B rfl (i32_in (by omega) (by omega)) d_Machine_wordAt_24 ?_
        refine mv_lor (pc := 25) B d_Machine_wordAt_25 ?_
        refine mv_lstore_n (pc := 26) B d_Machine_wordAt_26 rfl (by decide) rfl ?_
        refine mv_iinc (pc := 27) (j := 1) (v := -1) B d_Machine_wordAt_27 rfl (by decide) (by decide) rfl ?_
        refine mv_goto (pc := 30) (tgt := 7) B d_Machine_wordAt_30 rfl ?_
        refine mv_lpick [0, 1, 2, 3, 4] rfl ?_
        exact go _
  refine mv_lconst (pc := 0) (v := 0) B d_Machine_wordAt_0 (by decide) ?_
  refine mv_lstore_n (pc := 1) B d_Machine_wordAt_1 rfl (by decide) rfl ?_
  refine mv_iload_n (pc := 2) B d_Machine_wordAt_2 rfl 3 rfl ?_
  refine mv_iconst (pc := 3) (v := 1) B d_Machine_wordAt_3 (by decide) ?_
  refine mv_isub (pc := 4) B d_Machine_wordAt_4 ?_
  refine mv_topi (fun y4 ey4 => ?_)
  have fy4 := i32_subE ey4 (by (try simp only [Int32.reduceToInt]); omega) (by (try simp only [Int32.reduceToInt]); omega)
  try simp only [Int32.reduceToInt] at fy4
  refine mv_istore (pc := 5) B d_Machine_wordAt_5 (by decide) rfl ?_
  refine mv_lpick [0, 1, 2, 3, 4] rfl ?_
  exact lp _ _ _ (by omega) (by omega) (Nat.lt_succ_self _)
def y_Machine_opOf : MethodName := ⟨"MachineLoom$Machine", "opOf", "(J)I"⟩
abbrev b_Machine_opOf : ByteArray := prog_5_method_4_code
theorem kc_Machine_opOf : Cond.code y_Machine_opOf b_Machine_opOf 8 (Option.some Jvm.ClassFile.FieldType.int) ∈ ma := ma_of (tb_7 _ (List.mem_of_getElem? (i := 123) rfl)) rfl
theorem k_297 : (Jvm.Cond.fieldLink "MachineLoom$Machine" (80 : Nat) "MachineLoom$Tree" "highs" "[I") ∈ ma := ma_of (tb_2 _ (List.mem_of_getElem? (i := 57) rfl)) rfl
theorem k_292 : (Jvm.Cond.fieldLink "MachineLoom$Machine" (83 : Nat) "MachineLoom$Tree" "order" "[I") ∈ ma := ma_of (tb_2 _ (List.mem_of_getElem? (i := 52) rfl)) rfl
theorem k_350 : (Jvm.Cond.fieldLink "MachineLoom$Machine" (86 : Nat) "MachineLoom$Program" "masks" "[J") ∈ ma := ma_of (tb_2 _ (List.mem_of_getElem? (i := 110) rfl)) rfl
theorem k_353 : (Jvm.Cond.fieldLink "MachineLoom$Machine" (89 : Nat) "MachineLoom$Program" "values" "[J") ∈ ma := ma_of (tb_2 _ (List.mem_of_getElem? (i := 113) rfl)) rfl
theorem k_457 : (Jvm.Cond.fieldLink "MachineLoom$Machine" (90 : Nat) "MachineLoom$Machine" "beyond" "I") ∈ ma := ma_of (tb_2 _ (List.mem_of_getElem? (i := 217) rfl)) rfl
theorem k_366 : (Jvm.Cond.fieldLink "MachineLoom$Machine" (67 : Nat) "MachineLoom$Program" "tree" "LMachineLoom$Tree;") ∈ ma := ma_of (tb_2 _ (List.mem_of_getElem? (i := 126) rfl)) rfl
theorem k_1564 : (Jvm.Cond.methodLink "MachineLoom$Machine" (71 : Nat) ({ cls := "MachineLoom$Tree", name := "leafOf", desc := "(J)I" } : Jvm.MethodName)) ∈ ma := ma_of (tb_7 _ (List.mem_of_getElem? (i := 124) rfl)) rfl
theorem k_1565 : (Jvm.Cond.instanceMethod ({ cls := "MachineLoom$Tree", name := "leafOf", desc := "(J)I" } : Jvm.MethodName)) ∈ ma := ma_of (tb_7 _ (List.mem_of_getElem? (i := 125) rfl)) rfl
theorem k_1566 : (Jvm.Cond.selects "MachineLoom$Tree" ({ cls := "MachineLoom$Tree", name := "leafOf", desc := "(J)I" } : Jvm.MethodName) ({ cls := "MachineLoom$Tree", name := "leafOf", desc := "(J)I" } : Jvm.MethodName)) ∈ ma := ma_of (tb_7 _ (List.mem_of_getElem? (i := 126) rfl)) rfl
theorem k_295 : (Jvm.Cond.fieldLink "MachineLoom$Machine" (77 : Nat) "MachineLoom$Tree" "lows" "[I") ∈ ma := ma_of (tb_2 _ (List.mem_of_getElem? (i := 55) rfl)) rfl
theorem d_Machine_opOf_0 : decode b_Machine_opOf 0 = .ok (.aload_n 0, 1) := by decide +kernel
theorem d_Machine_opOf_1 : decode b_Machine_opOf 1 = .ok (.getfield 29, 3) := by decide +kernel
theorem d_Machine_opOf_4 : decode b_Machine_opOf 4 = .ok (.getfield 67, 3) := by decide +kernel
theorem d_Machine_opOf_7 : decode b_Machine_opOf 7 = .ok (.astore_n 3, 1) := by decide +kernel
theorem d_Machine_opOf_8 : decode b_Machine_opOf 8 = .ok (.aload_n 3, 1) := by decide +kernel
theorem d_Machine_opOf_9 : decode b_Machine_opOf 9 = .ok (.lload_n 1, 1) := by decide +kernel
theorem d_Machine_opOf_10 : decode b_Machine_opOf 10 = .ok (.invokevirtual 71, 3) := by decide +kernel
theorem d_Machine_opOf_13 : decode b_Machine_opOf 13 = .ok (.istore 4, 2) := by decide +kernel
theorem d_Machine_opOf_15 : decode b_Machine_opOf 15 = .ok (.iconst (-1), 1) := by decide +kernel
theorem d_Machine_opOf_16 : decode b_Machine_opOf 16 = .ok (.istore 5, 2) := by decide +kernel
theorem d_Machine_opOf_18 : decode b_Machine_opOf 18 = .ok (.aload_n 3, 1) := by decide +kernel
theorem d_Machine_opOf_19 : decode b_Machine_opOf 19 = .ok (.getfield 77, 3) := by decide +kernel
theorem d_Machine_opOf_22 : decode b_Machine_opOf 22 = .ok (.iload 4, 2) := by decide +kernel
theorem d_Machine_opOf_24 : decode b_Machine_opOf 24 = .ok (.iaload, 1) := by decide +kernel
theorem d_Machine_opOf_25 : decode b_Machine_opOf 25 = .ok (.istore 6, 2) := by decide +kernel
theorem d_Machine_opOf_27 : decode b_Machine_opOf 27 = .ok (.iload 6, 2) := by decide +kernel
theorem d_Machine_opOf_29 : decode b_Machine_opOf 29 = .ok (.aload_n 3, 1) := by decide +kernel
theorem d_Machine_opOf_30 : decode b_Machine_opOf 30 = .ok (.getfield 80, 3) := by decide +kernel
theorem d_Machine_opOf_33 : decode b_Machine_opOf 33 = .ok (.iload 4, 2) := by decide +kernel
theorem d_Machine_opOf_35 : decode b_Machine_opOf 35 = .ok (.iaload, 1) := by decide +kernel
theorem d_Machine_opOf_36 : decode b_Machine_opOf 36 = .ok (.if_icmp .ge (66), 3) := by decide +kernel
theorem d_Machine_opOf_39 : decode b_Machine_opOf 39 = .ok (.aload_n 3, 1) := by decide +kernel
theorem d_Machine_opOf_40 : decode b_Machine_opOf 40 = .ok (.getfield 83, 3) := by decide +kernel
theorem d_Machine_opOf_43 : decode b_Machine_opOf 43 = .ok (.iload 6, 2) := by decide +kernel
theorem d_Machine_opOf_45 : decode b_Machine_opOf 45 = .ok (.iaload, 1) := by decide +kernel
theorem d_Machine_opOf_46 : decode b_Machine_opOf 46 = .ok (.istore 7, 2) := by decide +kernel
theorem d_Machine_opOf_48 : decode b_Machine_opOf 48 = .ok (.lload_n 1, 1) := by decide +kernel
theorem d_Machine_opOf_49 : decode b_Machine_opOf 49 = .ok (.aload_n 0, 1) := by decide +kernel
theorem d_Machine_opOf_50 : decode b_Machine_opOf 50 = .ok (.getfield 29, 3) := by decide +kernel
theorem d_Machine_opOf_53 : decode b_Machine_opOf 53 = .ok (.getfield 86, 3) := by decide +kernel
theorem d_Machine_opOf_56 : decode b_Machine_opOf 56 = .ok (.iload 7, 2) := by decide +kernel
theorem d_Machine_opOf_58 : decode b_Machine_opOf 58 = .ok (.laload, 1) := by decide +kernel
theorem d_Machine_opOf_59 : decode b_Machine_opOf 59 = .ok (.land, 1) := by decide +kernel
theorem d_Machine_opOf_60 : decode b_Machine_opOf 60 = .ok (.aload_n 0, 1) := by decide +kernel
theorem d_Machine_opOf_61 : decode b_Machine_opOf 61 = .ok (.getfield 29, 3) := by decide +kernel
theorem d_Machine_opOf_64 : decode b_Machine_opOf 64 = .ok (.getfield 89, 3) := by decide +kernel
theorem d_Machine_opOf_67 : decode b_Machine_opOf 67 = .ok (.iload 7, 2) := by decide +kernel
theorem d_Machine_opOf_69 : decode b_Machine_opOf 69 = .ok (.laload, 1) := by decide +kernel
theorem d_Machine_opOf_70 : decode b_Machine_opOf 70 = .ok (.lcmp, 1) := by decide +kernel
theorem d_Machine_opOf_71 : decode b_Machine_opOf 71 = .ok (.ifCond .ne (25), 3) := by decide +kernel
theorem d_Machine_opOf_74 : decode b_Machine_opOf 74 = .ok (.iload 5, 2) := by decide +kernel
theorem d_Machine_opOf_76 : decode b_Machine_opOf 76 = .ok (.ifCond .lt (16), 3) := by decide +kernel
theorem d_Machine_opOf_79 : decode b_Machine_opOf 79 = .ok (.aload_n 0, 1) := by decide +kernel
theorem d_Machine_opOf_80 : decode b_Machine_opOf 80 = .ok (.dup, 1) := by decide +kernel
theorem d_Machine_opOf_81 : decode b_Machine_opOf 81 = .ok (.getfield 90, 3) := by decide +kernel
theorem d_Machine_opOf_84 : decode b_Machine_opOf 84 = .ok (.iconst 1, 1) := by decide +kernel
theorem d_Machine_opOf_85 : decode b_Machine_opOf 85 = .ok (.iadd, 1) := by decide +kernel
theorem d_Machine_opOf_86 : decode b_Machine_opOf 86 = .ok (.putfield 90, 3) := by decide +kernel
theorem d_Machine_opOf_89 : decode b_Machine_opOf 89 = .ok (.goto (7), 3) := by decide +kernel
theorem d_Machine_opOf_92 : decode b_Machine_opOf 92 = .ok (.iload 7, 2) := by decide +kernel
theorem d_Machine_opOf_94 : decode b_Machine_opOf 94 = .ok (.istore 5, 2) := by decide +kernel
theorem d_Machine_opOf_96 : decode b_Machine_opOf 96 = .ok (.iinc 6 (1), 3) := by decide +kernel
theorem d_Machine_opOf_99 : decode b_Machine_opOf 99 = .ok (.goto (-72), 3) := by decide +kernel
theorem d_Machine_opOf_102 : decode b_Machine_opOf 102 = .ok (.iload 5, 2) := by decide +kernel
theorem d_Machine_opOf_104 : decode b_Machine_opOf 104 = .ok (.ireturn, 1) := by decide +kernel
set_option maxHeartbeats 4000000 in
set_option maxRecDepth 100000 in
theorem c_Machine_opOf_a (l : Launch) {dA : FieldType → ClassId} {D : va_G} {al : Nat → Nat} {ext : mv_Sh} {sk sv : Nat → Nat} (hi : mv_inj (mg dA D al ext)) (σ : mv_H) (w9 : Int64) (hR : Rf 32 (mv_r σ)) (hT : TreeOK 32 512 σ ∨ TreeZ 32 σ) : mv_C l y_Machine_opOf (Cond.code y_Machine_opOf b_Machine_opOf 8 (Option.some Jvm.ClassFile.FieldType.int) :: ma) ({ frames := 1, cells := 0, slots := 0, locals := 24 }) (mg dA D al ext) (mK sk sv) [.ref (al 64), .long w9] σ (mv_Ri (fun v σ1 => F12 σ σ1 ∧ (v = -1 ∨ (0 ≤ v.toInt ∧ v.toInt < (mv_i σ 32 10).toInt ∧ TreeOK 32 512 σ)))) := by
  refine mv_C.ofV (cc := b_Machine_opOf) (nL := 8) (ret := (Option.some Jvm.ClassFile.FieldType.int)) (by decide +kernel) rfl hi (Nat.le_of_ble_eq_true rfl) ?_
  intro p e s m below meth c B hNs hr hnm hno
  have lq : ∀ (lf : Int32) (hL : LeafOK 32 512 σ lf) (hl0 : 0 ≤ lf.toInt) (hl1 : lf.toInt < 1025) (hl2 : 0 ≤ (mv_a σ 46 lf.toNatClampNeg).toInt) (hl3 : (mv_a σ 47 lf.toNatClampNeg).toInt ≤ 512), ∀ (jj : Int32) (q0 : (mv_a σ 46 lf.toNatClampNeg).toInt ≤ jj.toInt), mv_V p l e ({ frames := 1, cells := 0, slots := 0, locals := 24 }) s m ([.ref (al 64), .long w9] : List Value).toArray below meth c (mg dA D al ext) 8 0 0 (mv_Q (mg dA D al ext) below s 0 0 (mv_Ri (fun v σ1 => F12 σ σ1 ∧ (v = -1 ∨ (0 ≤ v.toInt ∧ v.toInt < (mv_i σ 32 10).toInt ∧ TreeOK 32 512 σ))))) σ 27 [(6, .int jj), (5, .int (-1)), (4, .int lf), (3, .ref (al 43)), (0, .ref (al 64)), (1, .long w9)] [] := by
    intro lf hL hl0 hl1 hl2 hl3
    have lp : ∀ (nn : Nat) (τ : mv_H) (jj : Int32) (fd : Int32) (q0 : (mv_a σ 46 lf.toNatClampNeg).toInt ≤ jj.toInt) (qd : (fd = -1 ∨ (0 ≤ fd.toInt ∧ fd.toInt < (mv_i σ 32 10).toInt ∧ TreeOK 32 512 σ))) (qF : F12 σ τ) (qR : Rf 32 (mv_r τ)), (512 - jj.toInt).toNat < nn → mv_V p l e ({ frames := 1, cells := 0, slots := 0, locals := 24 }) s m ([.ref (al 64), .long w9] : List Value).toArray below meth c (mg dA D al ext) 8 0 0 (mv_Q (mg dA D al ext) below s 0 0 (mv_Ri (fun v σ1 => F12 σ σ1 ∧ (v = -1 ∨ (0 ≤ v.toInt ∧ v.toInt < (mv_i σ 32 10).toInt ∧ TreeOK 32 512 σ))))) τ 27 [(6, .int jj), (5, .int fd), (4, .int lf), (3, .ref (al 43)), (0, .ref (al 64)), (1, .long w9)] [] := by
      intro nn
      induction nn with
      | zero => intro τ jj fd q0 qd qF qR hm; exact absurd hm (Nat.not_lt_zero _)
      | succ nn ih =>
        intro τ jj fd q0 qd qF qR hm
        refine mv_iload (pc := 27) B d_Machine_opOf_27 0 rfl ?_
        refine mv_aload_n (pc := 29) B d_Machine_opOf_29 rfl 3 rfl ?_
        refine mv_getR (pc := 30) (ci := 8) (C := R_Tree) (T := F_Tree) (N := 5) B 3 rfl rfl (by decide) i_Tree (B.2.2.2.1 _ k_297) rfl (qR.2.1 _ 3 47 rfl) d_Machine_opOf_30 ?_
        refine mv_iload (pc := 33) B d_Machine_opOf_33 2 rfl ?_
        refine mv_iald (pc := 35) B rfl (i32_in (by omega) (by omega)) d_Machine_opOf_35 ?_
        refine mv_icmp_ge (pc := 36) (tgt := 102) B d_Machine_opOf_36 rfl (fun h36 => ?_) (fun h36 => ?_)
        · skip
          skip
          refine mv_iload (pc := 102) B d_Machine_opOf_102 1 rfl ?_
          exact mv_iret (pc := 104) B hr rfl d_Machine_opOf_104 (Nat.le_refl _) (Nat.le_refl _) ⟨_, rfl, qF, qd⟩
        · skip
          rw [Int32.le_iff_toInt_le] at h36
          have e15 : mv_a τ 47 = mv_a σ 47 := qF.2.1 _ (fun q => q)
          have e12 : mv_a τ 44 = mv_a σ 44 := qF.2.1 _ (fun q => q)
          rw [e15] at h36
          have ejj := i32_cl (x := jj) (by omega)
          have ho := hL.2.2.2.2 jj.toNatClampNeg (show (mv_a σ 46 lf.toNatClampNeg).toInt ≤ _ by omega) (show _ < (mv_a σ 47 lf.toNatClampNeg).toInt by omega)
          have ho0 : 0 ≤ (mv_a τ 44 jj.toNatClampNeg).toInt := by rw [e12]; exact ho.1
          have ho1 : (mv_a τ 44 jj.toNatClampNeg).toInt < (mv_i σ 32 10).toInt := by rw [e12]; exact ho.2.1
          have ho2 := ho.2.2.1
          have w2 : (jj + 1).toInt = jj.toInt + 1 := i32_inc (by omega)
          refine mv_aload_n (pc := 39) B d_Machine_opOf_39 rfl 3 rfl ?_
          refine mv_getR (pc := 40) (ci := 8) (C := R_Tree) (T := F_Tree) (N := 5) B 0 rfl rfl (by decide) i_Tree (B.2.2.2.1 _ k_292) rfl (qR.2.1 _ 0 44 rfl) d_Machine_opOf_40 ?_
          refine mv_iload (pc := 43) B d_Machine_opOf_43 0 rfl ?_
          refine mv_iald (pc := 45) B rfl (i32_in (by omega) (by omega)) d_Machine_opOf_45 ?_
          refine mv_istore (pc := 46) B d_Machine_opOf_46 (by decide) rfl ?_
          refine mv_lload_n (pc := 48) B d_Machine_opOf_48 rfl 6 rfl ?_
          refine mv_aload_n (pc := 49) B d_Machine_opOf_49 rfl 5 rfl ?_
          refine mv_getR (pc := 50) (ci := 9) (C := R_Machine) (T := F_Machine) (N := 13) B 0 rfl rfl (by decide) i_Machine (B.2.2.2.1 _ k_440) rfl qR.2.2 d_Machine_opOf_50 ?_
          refine mv_getR (pc := 53) (ci := 7) (C := R_Program) (T := F_Program) (N := 19) B 11 rfl rfl (by decide) i_Program (B.2.2.2.1 _ k_350) rfl (qR.2.1 _ 11 37 rfl) d_Machine_opOf_53 ?_
          refine mv_iload (pc := 56) B d_Machine_opOf_56 0 rfl ?_
          refine mv_lald (pc := 58) B rfl (i32_in ho0 (by omega)) d_Machine_opOf_58 ?_
          refine mv_land (pc := 59) B d_Machine_opOf_59 ?_
          refine mv_aload_n (pc := 60) B d_Machine_opOf_60 rfl 5 rfl ?_
          refine mv_getR (pc := 61) (ci := 9) (C := R_Machine) (T := F_Machine) (N := 13) B 0 rfl rfl (by decide) i_Machine (B.2.2.2.1 _ k_440) rfl qR.2.2 d_Machine_opOf_61 ?_
          refine mv_getR (pc := 64) (ci := 7) (C := R_Program) (T := F_Program) (N := 19) B 12 rfl rfl (by decide) i_Program (B.2.2.2.1 _ k_353) rfl (qR.2.1 _ 12 38 rfl) d_Machine_opOf_64 ?_
          refine mv_iload (pc := 67) B d_Machine_opOf_67 0 rfl ?_
          refine mv_lald (pc := 69) B rfl (i32_in ho0 (by omega)) d_Machine_opOf_69 ?_
          refine mv_lcmp (pc := 70) B d_Machine_opOf_70 ?_
          refine mv_if_ne (pc := 71) (tgt := 96) B d_Machine_opOf_71 rfl (fun h71 => ?_) (fun h71 => ?_)
          · skip
            have go := ih τ (jj + 1) fd (by omega) qd qF qR (by omega)
            refine mv_iinc (pc := 96) (j := 1) (v := 1) B d_Machine_opOf_96 rfl (by decide) (by decide) rfl ?_
            refine mv_goto (pc := 99) (tgt := 27) B d_Machine_opOf_99 rfl ?_
            refine mv_lpick [0, 2, 3, 4, 5, 6] rfl ?_
            exact go
          · skip
            refine mv_iload (pc := 74) B d_Machine_opOf_74 2 rfl ?_
            refine mv_if_lt (pc := 76) (tgt := 92) B d_Machine_opOf_76 rfl (fun h76 => ?_) (fun h76 => ?_)
            · skip
              have go := ih τ (jj + 1) (mv_a τ 44 jj.toNatClampNeg) (by omega) (Or.inr ⟨ho0, ho1, ho.2.2.2⟩) qF qR (by omega)
              refine mv_iload (pc := 92) B d_Machine_opOf_92 0 rfl ?_
              refine mv_istore (pc := 94) B d_Machine_opOf_94 (by decide) rfl ?_
              refine mv_iinc (pc := 96) (j := 2) (v := 1) B d_Machine_opOf_96 rfl (by decide) (by decide) rfl ?_
              refine mv_goto (pc := 99) (tgt := 27) B d_Machine_opOf_99 rfl ?_
              refine mv_lpick [0, 1, 3, 4, 5, 6] rfl ?_
              exact go
            · skip
              have go := ih (mv_si τ 64 12 (mv_i τ 64 12 + 1)) (jj + 1) fd (by omega) qd (qF.si ⟨rfl, rfl⟩) qR (by omega)
              refine mv_aload_n (pc := 79) B d_Machine_opOf_79 rfl 5 rfl ?_
              refine mv_dup (pc := 80) B d_Machine_opOf_80 rfl ?_
              refine mv_getI (pc := 81) (ci := 9) (C := R_Machine) (T := F_Machine) (N := 13) B 12 rfl rfl (by decide) i_Machine (B.2.2.2.1 _ k_457) rfl d_Machine_opOf_81 ?_
              refine mv_iconst (pc := 84) (v := 1) B d_Machine_opOf_84 (by decide) ?_
              refine mv_iadd (pc := 85) B d_Machine_opOf_85 ?_
              refine mv_putI (pc := 86) (ci := 9) (C := R_Machine) (T := F_Machine) (N := 13) B 12 rfl rfl (by decide) i_Machine t_Machine_ok n_Machine (B.2.2.2.1 _ k_457) rfl rfl rfl rfl d_Machine_opOf_86 ?_
              refine mv_goto (pc := 89) (tgt := 96) B d_Machine_opOf_89 rfl ?_
              refine mv_iinc (pc := 96) (j := 1) (v := 1) B d_Machine_opOf_96 rfl (by decide) (by decide) rfl ?_
              refine mv_goto (pc := 99) (tgt := 27) B d_Machine_opOf_99 rfl ?_
              refine mv_lpick [0, 2, 3, 4, 5, 6] rfl ?_
              exact go
    intro jj q0
    exact lp _ σ jj (-1) q0 (Or.inl rfl) Fr.rf hR (Nat.lt_succ_self _)
  refine mv_aload_n (pc := 0) B d_Machine_opOf_0 rfl 0 rfl ?_
  refine mv_getR (pc := 1) (ci := 9) (C := R_Machine) (T := F_Machine) (N := 13) B 0 rfl rfl (by decide) i_Machine (B.2.2.2.1 _ k_440) rfl hR.2.2 d_Machine_opOf_1 ?_
  refine mv_getR (pc := 4) (ci := 7) (C := R_Program) (T := F_Program) (N := 19) B 18 rfl rfl (by decide) i_Program (B.2.2.2.1 _ k_366) rfl (hR.2.1 _ 18 43 rfl) d_Machine_opOf_4 ?_
  refine mv_astore_n (pc := 7) B d_Machine_opOf_7 rfl (by decide) rfl ?_
  refine mv_aload_n (pc := 8) B d_Machine_opOf_8 rfl 0 rfl ?_
  refine mv_lload_n (pc := 9) B d_Machine_opOf_9 rfl 2 rfl ?_
  refine mv_callVi (pc := 10) (n := 1) (ci := 8) (C := R_Tree) B (mK_ok sk sv) hNs rfl rfl (c_Tree_leafOf_a l hi _ _ hR.2.1 hT) rfl (ma_goodc kc_Tree_leafOf) (B.2.2.2.1 _ k_1564) (B.2.2.2.1 _ k_1565) (B.2.2.2.1 _ k_1566) (B.2.2.2.1 _ k_9) ⟨by decide +kernel, by decide +kernel, by decide +kernel⟩ rfl d_Machine_opOf_10 rfl (Nat.le_of_ble_eq_true rfl) ⟨by decide, by decide⟩ ⟨by decide, by decide⟩ ⟨by decide, by decide⟩ (mv_noH hno _) (fun v10 σ10 h10 => ?_)
  obtain ⟨e10, d10⟩ := h10
  have e10 := e10.symm
  subst e10
  refine mv_istore (pc := 13) B d_Machine_opOf_13 (by decide) rfl ?_
  refine mv_iconst (pc := 15) (v := -1) B d_Machine_opOf_15 (by decide) ?_
  refine mv_istore (pc := 16) B d_Machine_opOf_16 (by decide) rfl ?_
  refine mv_aload_n (pc := 18) B d_Machine_opOf_18 rfl 2 rfl ?_
  refine mv_getR (pc := 19) (ci := 8) (C := R_Tree) (T := F_Tree) (N := 5) B 2 rfl rfl (by decide) i_Tree (B.2.2.2.1 _ k_295) rfl (hR.2.1 _ 2 46 rfl) d_Machine_opOf_19 ?_
  refine mv_iload (pc := 22) B d_Machine_opOf_22 1 rfl ?_
  refine mv_iald (pc := 24) B rfl (i32_in d10.1 d10.2.1) d_Machine_opOf_24 ?_
  refine mv_istore (pc := 25) B d_Machine_opOf_25 (by decide) rfl ?_
  refine mv_lpick [0, 1, 2, 3, 4, 5] rfl ?_
  exact lq _ d10 d10.1 d10.2.1 d10.2.2.1 d10.2.2.2.1 _ (Int.le_refl _)
set_option maxHeartbeats 4000000 in
set_option maxRecDepth 100000 in
theorem c_Machine_opOf_b (l : Launch) {dA : FieldType → ClassId} {D : va_G} {al : Nat → Nat} {ext : mv_Sh} {sk sv : Nat → Nat} (hi : mv_inj (mg dA D al ext)) (σ : mv_H) (w9 : Int64) (hR : Rf 48 (mv_r σ)) (hT : TreeOK 48 512 σ ∨ TreeZ 48 σ) : mv_C l y_Machine_opOf (Cond.code y_Machine_opOf b_Machine_opOf 8 (Option.some Jvm.ClassFile.FieldType.int) :: ma) ({ frames := 1, cells := 0, slots := 0, locals := 24 }) (mg dA D al ext) (mK sk sv) [.ref (al 64), .long w9] σ (mv_Ri (fun v σ1 => F12 σ σ1 ∧ (v = -1 ∨ (0 ≤ v.toInt ∧ v.toInt < (mv_i σ 48 10).toInt ∧ TreeOK 48 512 σ)))) := by
  refine mv_C.ofV (cc := b_Machine_opOf) (nL := 8) (ret := (Option.some Jvm.ClassFile.FieldType.int)) (by decide +kernel) rfl hi (Nat.le_of_ble_eq_true rfl) ?_
  intro p e s m below meth c B hNs hr hnm hno
  have lq : ∀ (lf : Int32) (hL : LeafOK 48 512 σ lf) (hl0 : 0 ≤ lf.toInt) (hl1 : lf.toInt < 1025) (hl2 : 0 ≤ (mv_a σ 62 lf.toNatClampNeg).toInt) (hl3 : (mv_a σ 63 lf.toNatClampNeg).toInt ≤ 512), ∀ (jj : Int32) (q0 : (mv_a σ 62 lf.toNatClampNeg).toInt ≤ jj.toInt), mv_V p l e ({ frames := 1, cells := 0, slots := 0, locals := 24 }) s m ([.ref (al 64), .long w9] : List Value).toArray below meth c (mg dA D al ext) 8 0 0 (mv_Q (mg dA D al ext) below s 0 0 (mv_Ri (fun v σ1 => F12 σ σ1 ∧ (v = -1 ∨ (0 ≤ v.toInt ∧ v.toInt < (mv_i σ 48 10).toInt ∧ TreeOK 48 512 σ))))) σ 27 [(6, .int jj), (5, .int (-1)), (4, .int lf), (3, .ref (al 59)), (0, .ref (al 64)), (1, .long w9)] [] := by
    intro lf hL hl0 hl1 hl2 hl3
    have lp : ∀ (nn : Nat) (τ : mv_H) (jj : Int32) (fd : Int32) (q0 : (mv_a σ 62 lf.toNatClampNeg).toInt ≤ jj.toInt) (qd : (fd = -1 ∨ (0 ≤ fd.toInt ∧ fd.toInt < (mv_i σ 48 10).toInt ∧ TreeOK 48 512 σ))) (qF : F12 σ τ) (qR : Rf 48 (mv_r τ)), (512 - jj.toInt).toNat < nn → mv_V p l e ({ frames := 1, cells := 0, slots := 0, locals := 24 }) s m ([.ref (al 64), .long w9] : List Value).toArray below meth c (mg dA D al ext) 8 0 0 (mv_Q (mg dA D al ext) below s 0 0 (mv_Ri (fun v σ1 => F12 σ σ1 ∧ (v = -1 ∨ (0 ≤ v.toInt ∧ v.toInt < (mv_i σ 48 10).toInt ∧ TreeOK 48 512 σ))))) τ 27 [(6, .int jj), (5, .int fd), (4, .int lf), (3, .ref (al 59)), (0, .ref (al 64)), (1, .long w9)] [] := by
      intro nn
      induction nn with
      | zero => intro τ jj fd q0 qd qF qR hm; exact absurd hm (Nat.not_lt_zero _)
      | succ nn ih =>
        intro τ jj fd q0 qd qF qR hm
        refine mv_iload (pc := 27) B d_Machine_opOf_27 0 rfl ?_
        refine mv_aload_n (pc := 29) B d_Machine_opOf_29 rfl 3 rfl ?_
        refine mv_getR (pc := 30) (ci := 8) (C := R_Tree) (T := F_Tree) (N := 5) B 3 rfl rfl (by decide) i_Tree (B.2.2.2.1 _ k_297) rfl (qR.2.1 _ 3 63 rfl) d_Machine_opOf_30 ?_
        refine mv_iload (pc := 33) B d_Machine_opOf_33 2 rfl ?_
        refine mv_iald (pc := 35) B rfl (i32_in (by omega) (by omega)) d_Machine_opOf_35 ?_
        refine mv_icmp_ge (pc := 36) (tgt := 102) B d_Machine_opOf_36 rfl (fun h36 => ?_) (fun h36 => ?_)
        · skip
          skip
          refine mv_iload (pc := 102) B d_Machine_opOf_102 1 rfl ?_
          exact mv_iret (pc := 104) B hr rfl d_Machine_opOf_104 (Nat.le_refl _) (Nat.le_refl _) ⟨_, rfl, qF, qd⟩
        · skip
          rw [Int32.le_iff_toInt_le] at h36
          have e15 : mv_a τ 63 = mv_a σ 63 := qF.2.1 _ (fun q => q)
          have e12 : mv_a τ 60 = mv_a σ 60 := qF.2.1 _ (fun q => q)
          rw [e15] at h36
          have ejj := i32_cl (x := jj) (by omega)
          have ho := hL.2.2.2.2 jj.toNatClampNeg (show (mv_a σ 62 lf.toNatClampNeg).toInt ≤ _ by omega) (show _ < (mv_a σ 63 lf.toNatClampNeg).toInt by omega)
          have ho0 : 0 ≤ (mv_a τ 60 jj.toNatClampNeg).toInt := by rw [e12]; exact ho.1
          have ho1 : (mv_a τ 60 jj.toNatClampNeg).toInt < (mv_i σ 48 10).toInt := by rw [e12]; exact ho.2.1
          have ho2 := ho.2.2.1
          have w2 : (jj + 1).toInt = jj.toInt + 1 := i32_inc (by omega)
          refine mv_aload_n (pc := 39) B d_Machine_opOf_39 rfl 3 rfl ?_
          refine mv_getR (pc := 40) (ci := 8) (C := R_Tree) (T := F_Tree) (N := 5) B 0 rfl rfl (by decide) i_Tree (B.2.2.2.1 _ k_292) rfl (qR.2.1 _ 0 60 rfl) d_Machine_opOf_40 ?_
          refine mv_iload (pc := 43) B d_Machine_opOf_43 0 rfl ?_
          refine mv_iald (pc := 45) B rfl (i32_in (by omega) (by omega)) d_Machine_opOf_45 ?_
          refine mv_istore (pc := 46) B d_Machine_opOf_46 (by decide) rfl ?_
          refine mv_lload_n (pc := 48) B d_Machine_opOf_48 rfl 6 rfl ?_
          refine mv_aload_n (pc := 49) B d_Machine_opOf_49 rfl 5 rfl ?_
          refine mv_getR (pc := 50) (ci := 9) (C := R_Machine) (T := F_Machine) (N := 13) B 0 rfl rfl (by decide) i_Machine (B.2.2.2.1 _ k_440) rfl qR.2.2 d_Machine_opOf_50 ?_
          refine mv_getR (pc := 53) (ci := 7) (C := R_Program) (T := F_Program) (N := 19) B 11 rfl rfl (by decide) i_Program (B.2.2.2.1 _ k_350) rfl (qR.2.1 _ 11 53 rfl) d_Machine_opOf_53 ?_
          refine mv_iload (pc := 56) B d_Machine_opOf_56 0 rfl ?_
          refine mv_lald (pc := 58) B rfl (i32_in ho0 (by omega)) d_Machine_opOf_58 ?_
          refine mv_land (pc := 59) B d_Machine_opOf_59 ?_
          refine mv_aload_n (pc := 60) B d_Machine_opOf_60 rfl 5 rfl ?_
          refine mv_getR (pc := 61) (ci := 9) (C := R_Machine) (T := F_Machine) (N := 13) B 0 rfl rfl (by decide) i_Machine (B.2.2.2.1 _ k_440) rfl qR.2.2 d_Machine_opOf_61 ?_
          refine mv_getR (pc := 64) (ci := 7) (C := R_Program) (T := F_Program) (N := 19) B 12 rfl rfl (by decide) i_Program (B.2.2.2.1 _ k_353) rfl (qR.2.1 _ 12 54 rfl) d_Machine_opOf_64 ?_
          refine mv_iload (pc := 67) B d_Machine_opOf_67 0 rfl ?_
          refine mv_lald (pc := 69) B rfl (i32_in ho0 (by omega)) d_Machine_opOf_69 ?_
          refine mv_lcmp (pc := 70) B d_Machine_opOf_70 ?_
          refine mv_if_ne (pc := 71) (tgt := 96) B d_Machine_opOf_71 rfl (fun h71 => ?_) (fun h71 => ?_)
          · skip
            have go := ih τ (jj + 1) fd (by omega) qd qF qR (by omega)
            refine mv_iinc (pc := 96) (j := 1) (v := 1) B d_Machine_opOf_96 rfl (by decide) (by decide) rfl ?_
            refine mv_goto (pc := 99) (tgt := 27) B d_Machine_opOf_99 rfl ?_
            refine mv_lpick [0, 2, 3, 4, 5, 6] rfl ?_
            exact go
          · skip
            refine mv_iload (pc := 74) B d_Machine_opOf_74 2 rfl ?_
            refine mv_if_lt (pc := 76) (tgt := 92) B d_Machine_opOf_76 rfl (fun h76 => ?_) (fun h76 => ?_)
            · skip
              have go := ih τ (jj + 1) (mv_a τ 60 jj.toNatClampNeg) (by omega) (Or.inr ⟨ho0, ho1, ho.2.2.2⟩) qF qR (by omega)
              refine mv_iload (pc := 92) B d_Machine_opOf_92 0 rfl ?_
              refine mv_istore (pc := 94) B d_Machine_opOf_94 (by decide) rfl ?_
              refine mv_iinc (pc := 96) (j := 2) (v := 1) B d_Machine_opOf_96 rfl (by decide) (by decide) rfl ?_
              refine mv_goto (pc := 99) (tgt := 27) B d_Machine_opOf_99 rfl ?_
              refine mv_lpick [0, 1, 3, 4, 5, 6] rfl ?_
              exact go
            · skip
              have go := ih (mv_si τ 64 12 (mv_i τ 64 12 + 1)) (jj + 1) fd (by omega) qd (qF.si ⟨rfl, rfl⟩) qR (by omega)
              refine mv_aload_n (pc := 79) B d_Machine_opOf_79 rfl 5 rfl ?_
              refine mv_dup (pc := 80) B d_Machine_opOf_80 rfl ?_
              refine mv_getI (pc := 81) (ci := 9) (C := R_Machine) (T := F_Machine) (N := 13) B 12 rfl rfl (by decide) i_Machine (B.2.2.2.1 _ k_457) rfl d_Machine_opOf_81 ?_
              refine mv_iconst (pc := 84) (v := 1) B d_Machine_opOf_84 (by decide) ?_
              refine mv_iadd (pc := 85) B d_Machine_opOf_85 ?_
              refine mv_putI (pc := 86) (ci := 9) (C := R_Machine) (T := F_Machine) (N := 13) B 12 rfl rfl (by decide) i_Machine t_Machine_ok n_Machine (B.2.2.2.1 _ k_457) rfl rfl rfl rfl d_Machine_opOf_86 ?_
              refine mv_goto (pc := 89) (tgt := 96) B d_Machine_opOf_89 rfl ?_
              refine mv_iinc (pc := 96) (j := 1) (v := 1) B d_Machine_opOf_96 rfl (by decide) (by decide) rfl ?_
              refine mv_goto (pc := 99) (tgt := 27) B d_Machine_opOf_99 rfl ?_
              refine mv_lpick [0, 2, 3, 4, 5, 6] rfl ?_
              exact go
    intro jj q0
    exact lp _ σ jj (-1) q0 (Or.inl rfl) Fr.rf hR (Nat.lt_succ_self _)
  refine mv_aload_n (pc := 0) B d_Machine_opOf_0 rfl 0 rfl ?_
  refine mv_getR (pc := 1) (ci := 9) (C := R_Machine) (T := F_Machine) (N := 13) B 0 rfl rfl (by decide) i_Machine (B.2.2.2.1 _ k_440) rfl hR.2.2 d_Machine_opOf_1 ?_
  refine mv_getR (pc := 4) (ci := 7) (C := R_Program) (T := F_Program) (N := 19) B 18 rfl rfl (by decide) i_Program (B.2.2.2.1 _ k_366) rfl (hR.2.1 _ 18 59 rfl) d_Machine_opOf_4 ?_
  refine mv_astore_n (pc := 7) B d_Machine_opOf_7 rfl (by decide) rfl ?_
  refine mv_aload_n (pc := 8) B d_Machine_opOf_8 rfl 0 rfl ?_
  refine mv_lload_n (pc := 9) B d_Machine_opOf_9 rfl 2 rfl ?_
  refine mv_callVi (pc := 10) (n := 1) (ci := 8) (C := R_Tree) B (mK_ok sk sv) hNs rfl rfl (c_Tree_leafOf_b l hi _ _ hR.2.1 hT) rfl (ma_goodc kc_Tree_leafOf) (B.2.2.2.1 _ k_1564) (B.2.2.2.1 _ k_1565) (B.2.2.2.1 _ k_1566) (B.2.2.2.1 _ k_9) ⟨by decide +kernel, by decide +kernel, by decide +kernel⟩ rfl d_Machine_opOf_10 rfl (Nat.le_of_ble_eq_true rfl) ⟨by decide, by decide⟩ ⟨by decide, by decide⟩ ⟨by decide, by decide⟩ (mv_noH hno _) (fun v10 σ10 h10 => ?_)
  obtain ⟨e10, d10⟩ := h10
  have e10 := e10.symm
  subst e10
  refine mv_istore (pc := 13) B d_Machine_opOf_13 (by decide) rfl ?_
  refine mv_iconst (pc := 15) (v := -1) B d_Machine_opOf_15 (by decide) ?_
  refine mv_istore (pc := 16) B d_Machine_opOf_16 (by decide) rfl ?_
  refine mv_aload_n (pc := 18) B d_Machine_opOf_18 rfl 2 rfl ?_
  refine mv_getR (pc := 19) (ci := 8) (C := R_Tree) (T := F_Tree) (N := 5) B 2 rfl rfl (by decide) i_Tree (B.2.2.2.1 _ k_295) rfl (hR.2.1 _ 2 62 rfl) d_Machine_opOf_19 ?_
  refine mv_iload (pc := 22) B d_Machine_opOf_22 1 rfl ?_
  refine mv_iald (pc := 24) B rfl (i32_in d10.1 d10.2.1) d_Machine_opOf_24 ?_
  refine mv_istore (pc := 25) B d_Machine_opOf_25 (by decide) rfl ?_
  refine mv_lpick [0, 1, 2, 3, 4, 5] rfl ?_
  exact lq _ d10 d10.1 d10.2.1 d10.2.2.1 d10.2.2.2.1 _ (Int.le_refl _)
set_option maxHeartbeats 4000000 in
set_option maxRecDepth 100000 in
theorem c_Machine_opOf_c (l : Launch) {dA : FieldType → ClassId} {D : va_G} {al : Nat → Nat} {sk sv : Nat → Nat} (hi : mv_inj (mg dA D al me)) (σ : mv_H) (w9 : Int64) (hR : Rf 145 (mv_r σ)) (hT : TreeOK 145 48 σ ∨ TreeZ 145 σ) : mv_C l y_Machine_opOf (Cond.code y_Machine_opOf b_Machine_opOf 8 (Option.some Jvm.ClassFile.FieldType.int) :: ma) ({ frames := 1, cells := 0, slots := 0, locals := 24 }) (mg dA D al me) (mK sk sv) [.ref (al 64), .long w9] σ (mv_Ri (fun v σ1 => F12 σ σ1 ∧ (v = -1 ∨ (0 ≤ v.toInt ∧ v.toInt < (mv_i σ 145 10).toInt ∧ TreeOK 145 48 σ)))) := by
  refine mv_C.ofV (cc := b_Machine_opOf) (nL := 8) (ret := (Option.some Jvm.ClassFile.FieldType.int)) (by decide +kernel) rfl hi (Nat.le_of_ble_eq_true rfl) ?_
  intro p e s m below meth c B hNs hr hnm hno
  have lq : ∀ (lf : Int32) (hL : LeafOK 145 48 σ lf) (hl0 : 0 ≤ lf.toInt) (hl1 : lf.toInt < 97) (hl2 : 0 ≤ (mv_a σ 159 lf.toNatClampNeg).toInt) (hl3 : (mv_a σ 160 lf.toNatClampNeg).toInt ≤ 48), ∀ (jj : Int32) (q0 : (mv_a σ 159 lf.toNatClampNeg).toInt ≤ jj.toInt), mv_V p l e ({ frames := 1, cells := 0, slots := 0, locals := 24 }) s m ([.ref (al 64), .long w9] : List Value).toArray below meth c (mg dA D al me) 8 0 0 (mv_Q (mg dA D al me) below s 0 0 (mv_Ri (fun v σ1 => F12 σ σ1 ∧ (v = -1 ∨ (0 ≤ v.toInt ∧ v.toInt < (mv_i σ 145 10).toInt ∧ TreeOK 145 48 σ))))) σ 27 [(6, .int jj), (5, .int (-1)), (4, .int lf), (3, .ref (al 156)), (0, .ref (al 64)), (1, .long w9)] [] := by
    intro lf hL hl0 hl1 hl2 hl3
    have lp : ∀ (nn : Nat) (τ : mv_H) (jj : Int32) (fd : Int32) (q0 : (mv_a σ 159 lf.toNatClampNeg).toInt ≤ jj.toInt) (qd : (fd = -1 ∨ (0 ≤ fd.toInt ∧ fd.toInt < (mv_i σ 145 10).toInt ∧ TreeOK 145 48 σ))) (qF : F12 σ τ) (qR : Rf 145 (mv_r τ)), (48 - jj.toInt).toNat < nn → mv_V p l e ({ frames := 1, cells := 0, slots := 0, locals := 24 }) s m ([.ref (al 64), .long w9] : List Value).toArray below meth c (mg dA D al me) 8 0 0 (mv_Q (mg dA D al me) below s 0 0 (mv_Ri (fun v σ1 => F12 σ σ1 ∧ (v = -1 ∨ (0 ≤ v.toInt ∧ v.toInt < (mv_i σ 145 10).toInt ∧ TreeOK 145 48 σ))))) τ 27 [(6, .int jj), (5, .int fd), (4, .int lf), (3, .ref (al 156)), (0, .ref (al 64)), (1, .long w9)] [] := by
      intro nn
      induction nn with
      | zero => intro τ jj fd q0 qd qF qR hm; exact absurd hm (Nat.not_lt_zero _)
      | succ nn ih =>
        intro τ jj fd q0 qd qF qR hm
        refine mv_iload (pc := 27) B d_Machine_opOf_27 0 rfl ?_
        refine mv_aload_n (pc := 29) B d_Machine_opOf_29 rfl 3 rfl ?_
        refine mv_getR (pc := 30) (ci := 8) (C := R_Tree) (T := F_Tree) (N := 5) B 3 rfl rfl (by decide) i_Tree (B.2.2.2.1 _ k_297) rfl (qR.2.1 _ 3 160 rfl) d_Machine_opOf_30 ?_
        refine mv_iload (pc := 33) B d_Machine_opOf_33 2 rfl ?_
        refine mv_iald (pc := 35) B rfl (i32_in (by omega) (by omega)) d_Machine_opOf_35 ?_
        refine mv_icmp_ge (pc := 36) (tgt := 102) B d_Machine_opOf_36 rfl (fun h36 => ?_) (fun h36 => ?_)
        · skip
          skip
          refine mv_iload (pc := 102) B d_Machine_opOf_102 1 rfl ?_
          exact mv_iret (pc := 104) B hr rfl d_Machine_opOf_104 (Nat.le_refl _) (Nat.le_refl _) ⟨_, rfl, qF, qd⟩
        · skip
          rw [Int32.le_iff_toInt_le] at h36
          have e15 : mv_a τ 160 = mv_a σ 160 := qF.2.1 _ (fun q => q)
          have e12 : mv_a τ 157 = mv_a σ 157 := qF.2.1 _ (fun q => q)
          rw [e15] at h36
          have ejj := i32_cl (x := jj) (by omega)
          have ho := hL.2.2.2.2 jj.toNatClampNeg (show (mv_a σ 159 lf.toNatClampNeg).toInt ≤ _ by omega) (show _ < (mv_a σ 160 lf.toNatClampNeg).toInt by omega)
          have ho0 : 0 ≤ (mv_a τ 157 jj.toNatClampNeg).toInt := by rw [e12]; exact ho.1
          have ho1 : (mv_a τ 157 jj.toNatClampNeg).toInt < (mv_i σ 145 10).toInt := by rw [e12]; exact ho.2.1
          have ho2 := ho.2.2.1
          have w2 : (jj + 1).toInt = jj.toInt + 1 := i32_inc (by omega)
          refine mv_aload_n (pc := 39) B d_Machine_opOf_39 rfl 3 rfl ?_
          refine mv_getR (pc := 40) (ci := 8) (C := R_Tree) (T := F_Tree) (N := 5) B 0 rfl rfl (by decide) i_Tree (B.2.2.2.1 _ k_292) rfl (qR.2.1 _ 0 157 rfl) d_Machine_opOf_40 ?_
          refine mv_iload (pc := 43) B d_Machine_opOf_43 0 rfl ?_
          refine mv_iald (pc := 45) B rfl (i32_in (by omega) (by omega)) d_Machine_opOf_45 ?_
          refine mv_istore (pc := 46) B d_Machine_opOf_46 (by decide) rfl ?_
          refine mv_lload_n (pc := 48) B d_Machine_opOf_48 rfl 6 rfl ?_
          refine mv_aload_n (pc := 49) B d_Machine_opOf_49 rfl 5 rfl ?_
          refine mv_getR (pc := 50) (ci := 9) (C := R_Machine) (T := F_Machine) (N := 13) B 0 rfl rfl (by decide) i_Machine (B.2.2.2.1 _ k_440) rfl qR.2.2 d_Machine_opOf_50 ?_
          refine mv_getR (pc := 53) (ci := 7) (C := R_Program) (T := F_Program) (N := 19) B 11 rfl rfl (by decide) i_Program (B.2.2.2.1 _ k_350) rfl (qR.2.1 _ 11 150 rfl) d_Machine_opOf_53 ?_
          refine mv_iload (pc := 56) B d_Machine_opOf_56 0 rfl ?_
          refine mv_lald (pc := 58) B rfl (i32_in ho0 (by omega)) d_Machine_opOf_58 ?_
          refine mv_land (pc := 59) B d_Machine_opOf_59 ?_
          refine mv_aload_n (pc := 60) B d_Machine_opOf_60 rfl 5 rfl ?_
          refine mv_getR (pc := 61) (ci := 9) (C := R_Machine) (T := F_Machine) (N := 13) B 0 rfl rfl (by decide) i_Machine (B.2.2.2.1 _ k_440) rfl qR.2.2 d_Machine_opOf_61 ?_
          refine mv_getR (pc := 64) (ci := 7) (C := R_Program) (T := F_Program) (N := 19) B 12 rfl rfl (by decide) i_Program (B.2.2.2.1 _ k_353) rfl (qR.2.1 _ 12 151 rfl) d_Machine_opOf_64 ?_
          refine mv_iload (pc := 67) B d_Machine_opOf_67 0 rfl ?_
          refine mv_lald (pc := 69) B rfl (i32_in ho0 (by omega)) d_Machine_opOf_69 ?_
          refine mv_lcmp (pc := 70) B d_Machine_opOf_70 ?_
          refine mv_if_ne (pc := 71) (tgt := 96) B d_Machine_opOf_71 rfl (fun h71 => ?_) (fun h71 => ?_)
          · skip
            have go := ih τ (jj + 1) fd (by omega) qd qF qR (by omega)
            refine mv_iinc (pc := 96) (j := 1) (v := 1) B d_Machine_opOf_96 rfl (by decide) (by decide) rfl ?_
            refine mv_goto (pc := 99) (tgt := 27) B d_Machine_opOf_99 rfl ?_
            refine mv_lpick [0, 2, 3, 4, 5, 6] rfl ?_
            exact go
          · skip
            refine mv_iload (pc := 74) B d_Machine_opOf_74 2 rfl ?_
            refine mv_if_lt (pc := 76) (tgt := 92) B d_Machine_opOf_76 rfl (fun h76 => ?_) (fun h76 => ?_)
            · skip
              have go := ih τ (jj + 1) (mv_a τ 157 jj.toNatClampNeg) (by omega) (Or.inr ⟨ho0, ho1, ho.2.2.2⟩) qF qR (by omega)
              refine mv_iload (pc := 92) B d_Machine_opOf_92 0 rfl ?_
              refine mv_istore (pc := 94) B d_Machine_opOf_94 (by decide) rfl ?_
              refine mv_iinc (pc := 96) (j := 2) (v := 1) B d_Machine_opOf_96 rfl (by decide) (by decide) rfl ?_
              refine mv_goto (pc := 99) (tgt := 27) B d_Machine_opOf_99 rfl ?_
              refine mv_lpick [0, 1, 3, 4, 5, 6] rfl ?_
              exact go
            · skip
              have go := ih (mv_si τ 64 12 (mv_i τ 64 12 + 1)) (jj + 1) fd (by omega) qd (qF.si ⟨rfl, rfl⟩) qR (by omega)
              refine mv_aload_n (pc := 79) B d_Machine_opOf_79 rfl 5 rfl ?_
              refine mv_dup (pc := 80) B d_Machine_opOf_80 rfl ?_
              refine mv_getI (pc := 81) (ci := 9) (C := R_Machine) (T := F_Machine) (N := 13) B 12 rfl rfl (by decide) i_Machine (B.2.2.2.1 _ k_457) rfl d_Machine_opOf_81 ?_
              refine mv_iconst (pc := 84) (v := 1) B d_Machine_opOf_84 (by decide) ?_
              refine mv_iadd (pc := 85) B d_Machine_opOf_85 ?_
              refine mv_putI (pc := 86) (ci := 9) (C := R_Machine) (T := F_Machine) (N := 13) B 12 rfl rfl (by decide) i_Machine t_Machine_ok n_Machine (B.2.2.2.1 _ k_457) rfl rfl rfl rfl d_Machine_opOf_86 ?_
              refine mv_goto (pc := 89) (tgt := 96) B d_Machine_opOf_89 rfl ?_
              refine mv_iinc (pc := 96) (j := 1) (v := 1) B d_Machine_opOf_96 rfl (by decide) (by decide) rfl ?_
              refine mv_goto (pc := 99) (tgt := 27) B d_Machine_opOf_99 rfl ?_
              refine mv_lpick [0, 2, 3, 4, 5, 6] rfl ?_
              exact go
    intro jj q0
    exact lp _ σ jj (-1) q0 (Or.inl rfl) Fr.rf hR (Nat.lt_succ_self _)
  refine mv_aload_n (pc := 0) B d_Machine_opOf_0 rfl 0 rfl ?_
  refine mv_getR (pc := 1) (ci := 9) (C := R_Machine) (T := F_Machine) (N := 13) B 0 rfl rfl (by decide) i_Machine (B.2.2.2.1 _ k_440) rfl hR.2.2 d_Machine_opOf_1 ?_
  refine mv_getR (pc := 4) (ci := 7) (C := R_Program) (T := F_Program) (N := 19) B 18 rfl rfl (by decide) i_Program (B.2.2.2.1 _ k_366) rfl (hR.2.1 _ 18 156 rfl) d_Machine_opOf_4 ?_
  refine mv_astore_n (pc := 7) B d_Machine_opOf_7 rfl (by decide) rfl ?_
  refine mv_aload_n (pc := 8) B d_Machine_opOf_8 rfl 0 rfl ?_
  refine mv_lload_n (pc := 9) B d_Machine_opOf_9 rfl 2 rfl ?_
  refine mv_callVi (pc := 10) (n := 1) (ci := 8) (C := R_Tree) B (mK_ok sk sv) hNs rfl rfl (c_Tree_leafOf_c l hi _ _ hR.2.1 hT) rfl (ma_goodc kc_Tree_leafOf) (B.2.2.2.1 _ k_1564) (B.2.2.2.1 _ k_1565) (B.2.2.2.1 _ k_1566) (B.2.2.2.1 _ k_9) ⟨by decide +kernel, by decide +kernel, by decide +kernel⟩ rfl d_Machine_opOf_10 rfl (Nat.le_of_ble_eq_true rfl) ⟨by decide, by decide⟩ ⟨by decide, by decide⟩ ⟨by decide, by decide⟩ (mv_noH hno _) (fun v10 σ10 h10 => ?_)
  obtain ⟨e10, d10⟩ := h10
  have e10 := e10.symm
  subst e10
  refine mv_istore (pc := 13) B d_Machine_opOf_13 (by decide) rfl ?_
  refine mv_iconst (pc := 15) (v := -1) B d_Machine_opOf_15 (by decide) ?_
  refine mv_istore (pc := 16) B d_Machine_opOf_16 (by decide) rfl ?_
  refine mv_aload_n (pc := 18) B d_Machine_opOf_18 rfl 2 rfl ?_
  refine mv_getR (pc := 19) (ci := 8) (C := R_Tree) (T := F_Tree) (N := 5) B 2 rfl rfl (by decide) i_Tree (B.2.2.2.1 _ k_295) rfl (hR.2.1 _ 2 159 rfl) d_Machine_opOf_19 ?_
  refine mv_iload (pc := 22) B d_Machine_opOf_22 1 rfl ?_
  refine mv_iald (pc := 24) B rfl (i32_in d10.1 d10.2.1) d_Machine_opOf_24 ?_
  refine mv_istore (pc := 25) B d_Machine_opOf_25 (by decide) rfl ?_
  refine mv_lpick [0, 1, 2, 3, 4, 5] rfl ?_
  exact lq _ d10 d10.1 d10.2.1 d10.2.2.1 d10.2.2.2.1 _ (Int.le_refl _)
