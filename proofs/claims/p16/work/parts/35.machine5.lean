/-! Machine: oneWith, many, load -/
/-- the program at P is fit to run -/
def ProgOK (P R M : Nat) (σ : mv_H) (th sl : Nat) : Prop := Th P σ th sl ∧ (TreeZ P σ ∨ (TreeOK P M σ ∧ CodeOK P R σ th))
theorem ProgOK.fm {P R M th sl : Nat} {σ τ : mv_H} (h : ProgOK P R M σ th sl) (f : FM σ τ) (hP : PP P) : ProgOK P R M τ th sl := ⟨h.1.fm f hP, h.2.elim (fun q => Or.inl (q.fm f hP)) (fun q => Or.inr ⟨q.1.fm f hP, q.2.fm f hP⟩)⟩
theorem TreeZ.no {P M : Nat} {σ : mv_H} (h : TreeZ P σ) (g : TreeOK P M σ) : False := by
  obtain ⟨ops, n, dq, h1, h2, h3, h4, h5, h6⟩ := g
  rcases (h6 0 (by omega)).2 with ⟨q1, -⟩ | ⟨-, c, d, q1, q2, q3, q4, q5, q6⟩
  · rw [h.1] at q1; cases q1
  · rw [h.2.1] at q1
    have : (0 : Int) = c := q1
    have e : c = 0 := by omega
    subst e
    omega
theorem Fr12 {P : Nat} {σ τ : mv_H} (h : F12 σ τ) (hP : PP P) : mv_i τ P = mv_i σ P := funext fun _ => h.fm.i hP
def y_Machine_oneWith : MethodName := ⟨"MachineLoom$Machine", "oneWith", "(J)V"⟩
abbrev b_Machine_oneWith : ByteArray := prog_5_method_5_code
theorem kc_Machine_oneWith : Cond.code y_Machine_oneWith b_Machine_oneWith 4 (Option.none : Option Jvm.ClassFile.FieldType) ∈ ma := ma_of (tb_7 _ (List.mem_of_getElem? (i := 135) rfl)) rfl
theorem k_451 : (Jvm.Cond.fieldLink "MachineLoom$Machine" (110 : Nat) "MachineLoom$Machine" "latest" "I") ∈ ma := ma_of (tb_2 _ (List.mem_of_getElem? (i := 211) rfl)) rfl
theorem k_1639 : (Jvm.Cond.methodLink "MachineLoom$Machine" (116 : Nat) ({ cls := "MachineLoom$Machine", name := "undo", desc := "()V" } : Jvm.MethodName)) ∈ ma := ma_of (tb_7 _ (List.mem_of_getElem? (i := 199) rfl)) rfl
theorem k_1641 : (Jvm.Cond.instanceMethod ({ cls := "MachineLoom$Machine", name := "undo", desc := "()V" } : Jvm.MethodName)) ∈ ma := ma_of (tb_7 _ (List.mem_of_getElem? (i := 201) rfl)) rfl
theorem ks_76 : Cond.selects "MachineLoom$Machine" ⟨"MachineLoom$Machine", "undo", "()V"⟩ ⟨"MachineLoom$Machine", "undo", "()V"⟩ ∈ ma := ma_sel 76 rfl rfl
theorem k_455 : (Jvm.Cond.fieldLink "MachineLoom$Machine" (48 : Nat) "MachineLoom$Machine" "trapped" "I") ∈ ma := ma_of (tb_2 _ (List.mem_of_getElem? (i := 215) rfl)) rfl
theorem k_1635 : (Jvm.Cond.methodLink "MachineLoom$Machine" (113 : Nat) ({ cls := "MachineLoom$Machine", name := "goForth", desc := "()V" } : Jvm.MethodName)) ∈ ma := ma_of (tb_7 _ (List.mem_of_getElem? (i := 195) rfl)) rfl
theorem k_1637 : (Jvm.Cond.instanceMethod ({ cls := "MachineLoom$Machine", name := "goForth", desc := "()V" } : Jvm.MethodName)) ∈ ma := ma_of (tb_7 _ (List.mem_of_getElem? (i := 197) rfl)) rfl
theorem ks_75 : Cond.selects "MachineLoom$Machine" ⟨"MachineLoom$Machine", "goForth", "()V"⟩ ⟨"MachineLoom$Machine", "goForth", "()V"⟩ ∈ ma := ma_sel 75 rfl rfl
theorem k_453 : (Jvm.Cond.fieldLink "MachineLoom$Machine" (45 : Nat) "MachineLoom$Machine" "done" "I") ∈ ma := ma_of (tb_2 _ (List.mem_of_getElem? (i := 213) rfl)) rfl
theorem k_1576 : (Jvm.Cond.methodLink "MachineLoom$Machine" (100 : Nat) ({ cls := "MachineLoom$Machine", name := "opOf", desc := "(J)I" } : Jvm.MethodName)) ∈ ma := ma_of (tb_7 _ (List.mem_of_getElem? (i := 136) rfl)) rfl
theorem k_1561 : (Jvm.Cond.instanceMethod ({ cls := "MachineLoom$Machine", name := "opOf", desc := "(J)I" } : Jvm.MethodName)) ∈ ma := ma_of (tb_7 _ (List.mem_of_getElem? (i := 121) rfl)) rfl
theorem k_1562 : (Jvm.Cond.selects "MachineLoom$Machine" ({ cls := "MachineLoom$Machine", name := "opOf", desc := "(J)I" } : Jvm.MethodName) ({ cls := "MachineLoom$Machine", name := "opOf", desc := "(J)I" } : Jvm.MethodName)) ∈ ma := ma_of (tb_7 _ (List.mem_of_getElem? (i := 122) rfl)) rfl
theorem k_355 : (Jvm.Cond.fieldLink "MachineLoom$Machine" (103 : Nat) "MachineLoom$Program" "starts" "[I") ∈ ma := ma_of (tb_2 _ (List.mem_of_getElem? (i := 115) rfl)) rfl
theorem k_1577 : (Jvm.Cond.methodLink "MachineLoom$Machine" (106 : Nat) ({ cls := "MachineLoom$Machine", name := "perform", desc := "(IJ)I" } : Jvm.MethodName)) ∈ ma := ma_of (tb_7 _ (List.mem_of_getElem? (i := 137) rfl)) rfl
theorem k_1579 : (Jvm.Cond.instanceMethod ({ cls := "MachineLoom$Machine", name := "perform", desc := "(IJ)I" } : Jvm.MethodName)) ∈ ma := ma_of (tb_7 _ (List.mem_of_getElem? (i := 139) rfl)) rfl
theorem ks_69 : Cond.selects "MachineLoom$Machine" ⟨"MachineLoom$Machine", "perform", "(IJ)I"⟩ ⟨"MachineLoom$Machine", "perform", "(IJ)I"⟩ ∈ ma := ma_sel 69 rfl rfl
theorem d_Machine_oneWith_0 : decode b_Machine_oneWith 0 = .ok (.aload_n 0, 1) := by decide +kernel
theorem d_Machine_oneWith_1 : decode b_Machine_oneWith 1 = .ok (.iconst 0, 1) := by decide +kernel
theorem d_Machine_oneWith_2 : decode b_Machine_oneWith 2 = .ok (.putfield 93, 3) := by decide +kernel
theorem d_Machine_oneWith_5 : decode b_Machine_oneWith 5 = .ok (.aload_n 0, 1) := by decide +kernel
theorem d_Machine_oneWith_6 : decode b_Machine_oneWith 6 = .ok (.iconst 0, 1) := by decide +kernel
theorem d_Machine_oneWith_7 : decode b_Machine_oneWith 7 = .ok (.putfield 96, 3) := by decide +kernel
theorem d_Machine_oneWith_10 : decode b_Machine_oneWith 10 = .ok (.aload_n 0, 1) := by decide +kernel
theorem d_Machine_oneWith_11 : decode b_Machine_oneWith 11 = .ok (.lload_n 1, 1) := by decide +kernel
theorem d_Machine_oneWith_12 : decode b_Machine_oneWith 12 = .ok (.invokevirtual 100, 3) := by decide +kernel
theorem d_Machine_oneWith_15 : decode b_Machine_oneWith 15 = .ok (.istore_n 3, 1) := by decide +kernel
theorem d_Machine_oneWith_16 : decode b_Machine_oneWith 16 = .ok (.aload_n 0, 1) := by decide +kernel
theorem d_Machine_oneWith_17 : decode b_Machine_oneWith 17 = .ok (.iload_n 3, 1) := by decide +kernel
theorem d_Machine_oneWith_18 : decode b_Machine_oneWith 18 = .ok (.ifCond .ge (8), 3) := by decide +kernel
theorem d_Machine_oneWith_21 : decode b_Machine_oneWith 21 = .ok (.bipush (-2), 2) := by decide +kernel
theorem d_Machine_oneWith_23 : decode b_Machine_oneWith 23 = .ok (.goto (17), 3) := by decide +kernel
theorem d_Machine_oneWith_26 : decode b_Machine_oneWith 26 = .ok (.aload_n 0, 1) := by decide +kernel
theorem d_Machine_oneWith_27 : decode b_Machine_oneWith 27 = .ok (.aload_n 0, 1) := by decide +kernel
theorem d_Machine_oneWith_28 : decode b_Machine_oneWith 28 = .ok (.getfield 29, 3) := by decide +kernel
theorem d_Machine_oneWith_31 : decode b_Machine_oneWith 31 = .ok (.getfield 103, 3) := by decide +kernel
theorem d_Machine_oneWith_34 : decode b_Machine_oneWith 34 = .ok (.iload_n 3, 1) := by decide +kernel
theorem d_Machine_oneWith_35 : decode b_Machine_oneWith 35 = .ok (.iaload, 1) := by decide +kernel
theorem d_Machine_oneWith_36 : decode b_Machine_oneWith 36 = .ok (.lload_n 1, 1) := by decide +kernel
theorem d_Machine_oneWith_37 : decode b_Machine_oneWith 37 = .ok (.invokevirtual 106, 3) := by decide +kernel
theorem d_Machine_oneWith_40 : decode b_Machine_oneWith 40 = .ok (.putfield 110, 3) := by decide +kernel
theorem d_Machine_oneWith_43 : decode b_Machine_oneWith 43 = .ok (.aload_n 0, 1) := by decide +kernel
theorem d_Machine_oneWith_44 : decode b_Machine_oneWith 44 = .ok (.getfield 110, 3) := by decide +kernel
theorem d_Machine_oneWith_47 : decode b_Machine_oneWith 47 = .ok (.ifCond .ne (20), 3) := by decide +kernel
theorem d_Machine_oneWith_50 : decode b_Machine_oneWith 50 = .ok (.aload_n 0, 1) := by decide +kernel
theorem d_Machine_oneWith_51 : decode b_Machine_oneWith 51 = .ok (.invokevirtual 113, 3) := by decide +kernel
theorem d_Machine_oneWith_54 : decode b_Machine_oneWith 54 = .ok (.aload_n 0, 1) := by decide +kernel
theorem d_Machine_oneWith_55 : decode b_Machine_oneWith 55 = .ok (.dup, 1) := by decide +kernel
theorem d_Machine_oneWith_56 : decode b_Machine_oneWith 56 = .ok (.getfield 45, 3) := by decide +kernel
theorem d_Machine_oneWith_59 : decode b_Machine_oneWith 59 = .ok (.iconst 1, 1) := by decide +kernel
theorem d_Machine_oneWith_60 : decode b_Machine_oneWith 60 = .ok (.iadd, 1) := by decide +kernel
theorem d_Machine_oneWith_61 : decode b_Machine_oneWith 61 = .ok (.putfield 45, 3) := by decide +kernel
theorem d_Machine_oneWith_64 : decode b_Machine_oneWith 64 = .ok (.goto (17), 3) := by decide +kernel
theorem d_Machine_oneWith_67 : decode b_Machine_oneWith 67 = .ok (.aload_n 0, 1) := by decide +kernel
theorem d_Machine_oneWith_68 : decode b_Machine_oneWith 68 = .ok (.invokevirtual 116, 3) := by decide +kernel
theorem d_Machine_oneWith_71 : decode b_Machine_oneWith 71 = .ok (.aload_n 0, 1) := by decide +kernel
theorem d_Machine_oneWith_72 : decode b_Machine_oneWith 72 = .ok (.dup, 1) := by decide +kernel
theorem d_Machine_oneWith_73 : decode b_Machine_oneWith 73 = .ok (.getfield 48, 3) := by decide +kernel
theorem d_Machine_oneWith_76 : decode b_Machine_oneWith 76 = .ok (.iconst 1, 1) := by decide +kernel
theorem d_Machine_oneWith_77 : decode b_Machine_oneWith 77 = .ok (.iadd, 1) := by decide +kernel
theorem d_Machine_oneWith_78 : decode b_Machine_oneWith 78 = .ok (.putfield 48, 3) := by decide +kernel
theorem d_Machine_oneWith_81 : decode b_Machine_oneWith 81 = .ok (.return_, 1) := by decide +kernel
set_option maxHeartbeats 4000000 in
set_option maxRecDepth 100000 in
theorem c_Machine_oneWith_a (l : Launch) {dA : FieldType → ClassId} {D : va_G} {al : Nat → Nat} {ext : mv_Sh} {sk sv : Nat → Nat} (hi : mv_inj (mg dA D al ext)) (σ : mv_H) (w9 : Int64) (hR : Rf 32 (mv_r σ)) (th sl : Nat) (hP9 : ProgOK 32 32768 512 σ th sl) : mv_C l y_Machine_oneWith (Cond.code y_Machine_oneWith b_Machine_oneWith 4 (Option.none : Option Jvm.ClassFile.FieldType) :: ma) ({ frames := 5, cells := 0, slots := 0, locals := 129 }) (mg dA D al ext) (mK sk sv) [.ref (al 64), .long w9] σ (mv_Rv (fun σ1 => FM σ σ1)) := by
  refine mv_C.ofV (cc := b_Machine_oneWith) (nL := 4) (ret := (Option.none : Option Jvm.ClassFile.FieldType)) (by decide +kernel) rfl hi (Nat.le_of_ble_eq_true rfl) ?_
  intro p e s m below meth c B hNs hr hnm hno
  have hP : PP 32 := by unfold PP; omega
  have j43 : ∀ (τ : mv_H) (u : Nat) (qR : Rf 32 (mv_r τ)) (qF : FM σ τ) (qT : Th 32 τ th sl) (qU : Un τ u), mv_V p l e ({ frames := 5, cells := 0, slots := 0, locals := 129 }) s m ([.ref (al 64), .long w9] : List Value).toArray below meth c (mg dA D al ext) 4 0 0 (mv_Q (mg dA D al ext) below s 0 0 (mv_Rv (fun σ1 => FM σ σ1))) τ 43 [(0, .ref (al 64))] [] := by
    intro τ u qR qF qT qU
    refine mv_aload_n (pc := 43) B d_Machine_oneWith_43 rfl 0 rfl ?_
    refine mv_getI (pc := 44) (ci := 9) (C := R_Machine) (T := F_Machine) (N := 13) B 9 rfl rfl (by decide) i_Machine (B.2.2.2.1 _ k_451) rfl d_Machine_oneWith_44 ?_
    refine mv_if_ne (pc := 47) (tgt := 67) B d_Machine_oneWith_47 rfl (fun h47 => ?_) (fun h47 => ?_)
    · skip
      refine mv_aload_n (pc := 67) B d_Machine_oneWith_67 rfl 0 rfl ?_
      refine mv_callVv (pc := 68) (n := 0) (ci := 9) (C := R_Machine) B (mK_ok sk sv) hNs rfl rfl (c_Machine_undo_a l hi _ qR u qU) rfl (ma_goodc kc_Machine_undo) (B.2.2.2.1 _ k_1639) (B.2.2.2.1 _ k_1641) (B.2.2.2.1 _ ks_76) (B.2.2.2.1 _ k_11) ⟨by decide +kernel, by decide +kernel, by decide +kernel⟩ rfl d_Machine_oneWith_68 rfl (Nat.le_of_ble_eq_true rfl) ⟨by decide, by decide⟩ ⟨by decide, by decide⟩ ⟨by decide, by decide⟩ (mv_noH hno _) (fun σ68 h68 => ?_)
      have g68 := (qF.tr h68.fm)
      refine mv_aload_n (pc := 71) B d_Machine_oneWith_71 rfl 0 rfl ?_
      refine mv_dup (pc := 72) B d_Machine_oneWith_72 rfl ?_
      refine mv_getI (pc := 73) (ci := 9) (C := R_Machine) (T := F_Machine) (N := 13) B 11 rfl rfl (by decide) i_Machine (B.2.2.2.1 _ k_455) rfl d_Machine_oneWith_73 ?_
      refine mv_iconst (pc := 76) (v := 1) B d_Machine_oneWith_76 (by decide) ?_
      refine mv_iadd (pc := 77) B d_Machine_oneWith_77 ?_
      refine mv_putI (pc := 78) (ci := 9) (C := R_Machine) (T := F_Machine) (N := 13) B 11 rfl rfl (by decide) i_Machine t_Machine_ok n_Machine (B.2.2.2.1 _ k_455) rfl rfl rfl rfl d_Machine_oneWith_78 ?_
      exact mv_vret (pc := 81) B hr d_Machine_oneWith_81 (Nat.le_refl _) (Nat.le_refl _) ⟨rfl, by first | exact g51.si rfl | exact g68.si rfl⟩
    · skip
      refine mv_aload_n (pc := 50) B d_Machine_oneWith_50 rfl 0 rfl ?_
      refine mv_callVv (pc := 51) (n := 0) (ci := 9) (C := R_Machine) B (mK_ok sk sv) hNs rfl rfl (c_Machine_goForth_a l hi _ qR th sl qT) rfl (ma_goodc kc_Machine_goForth) (B.2.2.2.1 _ k_1635) (B.2.2.2.1 _ k_1637) (B.2.2.2.1 _ ks_75) (B.2.2.2.1 _ k_11) ⟨by decide +kernel, by decide +kernel, by decide +kernel⟩ rfl d_Machine_oneWith_51 rfl (Nat.le_of_ble_eq_true rfl) ⟨by decide, by decide⟩ ⟨by decide, by decide⟩ ⟨by decide, by decide⟩ (mv_noH hno _) (fun σ51 h51 => ?_)
      have g51 := (qF.tr h51.fm)
      refine mv_aload_n (pc := 54) B d_Machine_oneWith_54 rfl 0 rfl ?_
      refine mv_dup (pc := 55) B d_Machine_oneWith_55 rfl ?_
      refine mv_getI (pc := 56) (ci := 9) (C := R_Machine) (T := F_Machine) (N := 13) B 10 rfl rfl (by decide) i_Machine (B.2.2.2.1 _ k_453) rfl d_Machine_oneWith_56 ?_
      refine mv_iconst (pc := 59) (v := 1) B d_Machine_oneWith_59 (by decide) ?_
      refine mv_iadd (pc := 60) B d_Machine_oneWith_60 ?_
      refine mv_putI (pc := 61) (ci := 9) (C := R_Machine) (T := F_Machine) (N := 13) B 10 rfl rfl (by decide) i_Machine t_Machine_ok n_Machine (B.2.2.2.1 _ k_453) rfl rfl rfl rfl d_Machine_oneWith_61 ?_
      refine mv_goto (pc := 64) (tgt := 81) B d_Machine_oneWith_64 rfl ?_
      exact mv_vret (pc := 81) B hr d_Machine_oneWith_81 (Nat.le_refl _) (Nat.le_refl _) ⟨rfl, by first | exact g51.si rfl | exact g68.si rfl⟩
  have j40 : ∀ (τ : mv_H) (x9 : Int32) (u : Nat) (qR : Rf 32 (mv_r τ)) (qF : FM σ τ) (qT : Th 32 τ th sl) (qU : Un τ u), mv_V p l e ({ frames := 5, cells := 0, slots := 0, locals := 129 }) s m ([.ref (al 64), .long w9] : List Value).toArray below meth c (mg dA D al ext) 4 0 0 (mv_Q (mg dA D al ext) below s 0 0 (mv_Rv (fun σ1 => FM σ σ1))) τ 40 [(0, .ref (al 64))] [.int x9, .ref (al 64)] := by
    intro τ x9 u qR qF qT qU
    refine mv_putI (pc := 40) (ci := 9) (C := R_Machine) (T := F_Machine) (N := 13) B 9 rfl rfl (by decide) i_Machine t_Machine_ok n_Machine (B.2.2.2.1 _ k_451) rfl rfl rfl rfl d_Machine_oneWith_40 ?_
    refine mv_lpick [0] rfl ?_
    exact j43 _ u qR (qF.si rfl) qT qU
  refine mv_aload_n (pc := 0) B d_Machine_oneWith_0 rfl 0 rfl ?_
  refine mv_iconst (pc := 1) (v := 0) B d_Machine_oneWith_1 (by decide) ?_
  refine mv_putI (pc := 2) (ci := 9) (C := R_Machine) (T := F_Machine) (N := 13) B 7 rfl rfl (by decide) i_Machine t_Machine_ok n_Machine (B.2.2.2.1 _ k_449) rfl rfl rfl rfl d_Machine_oneWith_2 ?_
  refine mv_aload_n (pc := 5) B d_Machine_oneWith_5 rfl 0 rfl ?_
  refine mv_iconst (pc := 6) (v := 0) B d_Machine_oneWith_6 (by decide) ?_
  refine mv_putI (pc := 7) (ci := 9) (C := R_Machine) (T := F_Machine) (N := 13) B 8 rfl rfl (by decide) i_Machine t_Machine_ok n_Machine (B.2.2.2.1 _ k_450) rfl rfl rfl rfl d_Machine_oneWith_7 ?_
  refine mv_gen (fun S eS => ?_)
  have sR : Rf 32 (mv_r S) := by rw [eS]; exact hR
  have sF : FM σ S := by rw [eS]; exact (FM0.si rfl).si rfl
  have sP := hP9.fm sF hP
  have sU : Un S 0 := by rw [eS]; exact ⟨rfl, by omega, fun j q => by omega⟩
  clear eS
  refine mv_aload_n (pc := 10) B d_Machine_oneWith_10 rfl 0 rfl ?_
  refine mv_lload_n (pc := 11) B d_Machine_oneWith_11 rfl 1 rfl ?_
  refine mv_callVi (pc := 12) (n := 1) (ci := 9) (C := R_Machine) B (mK_ok sk sv) hNs rfl rfl (c_Machine_opOf_a l hi _ _ sR (sP.2.elim (fun q => Or.inr q) (fun q => Or.inl q.1))) rfl (ma_goodc kc_Machine_opOf) (B.2.2.2.1 _ k_1576) (B.2.2.2.1 _ k_1561) (B.2.2.2.1 _ k_1562) (B.2.2.2.1 _ k_11) ⟨by decide +kernel, by decide +kernel, by decide +kernel⟩ rfl d_Machine_oneWith_12 rfl (Nat.le_of_ble_eq_true rfl) ⟨by decide, by decide⟩ ⟨by decide, by decide⟩ ⟨by decide, by decide⟩ (mv_noH hno _) (fun v12 σ12 h12 => ?_)
  obtain ⟨f12, d12⟩ := h12
  have F12 := sF.tr f12.fm
  have g12 := sP.fm f12.fm hP
  have sR : Rf 32 (mv_r σ12) := by rw [f12.2.2.2.2]; exact sR
  have u12 : Un σ12 0 := sU.fr (f12.1 _ _ (by decide)) (f12.2.1 _ (fun q => q))
  refine mv_istore_n (pc := 15) B d_Machine_oneWith_15 rfl (by decide) rfl ?_
  refine mv_aload_n (pc := 16) B d_Machine_oneWith_16 rfl 1 rfl ?_
  refine mv_iload_n (pc := 17) B d_Machine_oneWith_17 rfl 0 rfl ?_
  refine mv_if_ge (pc := 18) (tgt := 26) B d_Machine_oneWith_18 rfl (fun h18 => ?_) (fun h18 => ?_)
  · skip
    rw [Int32.le_iff_toInt_le] at h18
    simp only [Int32.reduceToInt] at h18
    obtain ⟨k0, k1, k2⟩ := d12.resolve_left (fun q => by rw [q] at h18; exact absurd h18 (by decide))
    obtain ⟨hg, sz, hc1, hc2, hc3, hc4, hc5, hc6⟩ : CodeOK 32 32768 σ12 th := (g12.2.resolve_left (fun q => q.no (k2.fm f12.fm hP))).2
    have ev := i32_cl (x := v12) k0
    obtain ⟨n9, hn9, hn1, hn2⟩ := hc5 v12.toNatClampNeg (by rw [f12.fm.i hP]; omega)
    have kM : (mv_i S 32 10).toInt ≤ 512 := by obtain ⟨ops, _, _, e1, e2, -⟩ := k2; omega
    refine mv_aload_n (pc := 26) B d_Machine_oneWith_26 rfl 1 rfl ?_
    refine mv_aload_n (pc := 27) B d_Machine_oneWith_27 rfl 1 rfl ?_
    refine mv_getR (pc := 28) (ci := 9) (C := R_Machine) (T := F_Machine) (N := 13) B 0 rfl rfl (by decide) i_Machine (B.2.2.2.1 _ k_440) rfl sR.2.2 d_Machine_oneWith_28 ?_
    refine mv_getR (pc := 31) (ci := 7) (C := R_Program) (T := F_Program) (N := 19) B 13 rfl rfl (by decide) i_Program (B.2.2.2.1 _ k_355) rfl (sR.2.1 _ 13 39 rfl) d_Machine_oneWith_31 ?_
    refine mv_iload_n (pc := 34) B d_Machine_oneWith_34 rfl 0 rfl ?_
    refine mv_iald (pc := 35) B rfl (i32_in k0 (by omega)) d_Machine_oneWith_35 ?_
    refine mv_lload_n (pc := 36) B d_Machine_oneWith_36 rfl 2 rfl ?_
    refine mv_callVi (pc := 37) (n := 2) (ci := 9) (C := R_Machine) B (mK_ok sk sv) hNs rfl rfl (c_Machine_perform_a l hi _ _ _ sR th sl g12.1 hg sz hc1 hc2 hc3 hc4 n9 hn9 hn1 hn2 hc6 u12) rfl (ma_goodc kc_Machine_perform) (B.2.2.2.1 _ k_1577) (B.2.2.2.1 _ k_1579) (B.2.2.2.1 _ ks_69) (B.2.2.2.1 _ k_11) ⟨by decide +kernel, by decide +kernel, by decide +kernel⟩ rfl d_Machine_oneWith_37 rfl (Nat.le_of_ble_eq_true rfl) ⟨by decide, by decide⟩ ⟨by decide, by decide⟩ ⟨by decide, by decide⟩ (mv_noH hno _) (fun v37 σ37 h37 => ?_)
    obtain ⟨f37, u, u37⟩ := h37
    refine mv_lpick [1] rfl ?_
    first | exact j40 _ _ _ (by rw [f37.2.2.2.2]; exact sR) (F12.tr f37.fm) (g12.1.fm f37.fm hP) u37 | exact j40 _ _ _ sR F12 g12.1 u12
  · skip
    refine mv_bipush (pc := 21) (v := -2) B d_Machine_oneWith_21 (by decide) ?_
    refine mv_goto (pc := 23) (tgt := 40) B d_Machine_oneWith_23 rfl ?_
    refine mv_lpick [1] rfl ?_
    first | exact j40 _ _ _ (by rw [f37.2.2.2.2]; exact sR) (F12.tr f37.fm) (g12.1.fm f37.fm hP) u37 | exact j40 _ _ _ sR F12 g12.1 u12
set_option maxHeartbeats 4000000 in
set_option maxRecDepth 100000 in
theorem c_Machine_oneWith_b (l : Launch) {dA : FieldType → ClassId} {D : va_G} {al : Nat → Nat} {ext : mv_Sh} {sk sv : Nat → Nat} (hi : mv_inj (mg dA D al ext)) (σ : mv_H) (w9 : Int64) (hR : Rf 48 (mv_r σ)) (th sl : Nat) (hP9 : ProgOK 48 32768 512 σ th sl) : mv_C l y_Machine_oneWith (Cond.code y_Machine_oneWith b_Machine_oneWith 4 (Option.none : Option Jvm.ClassFile.FieldType) :: ma) ({ frames := 5, cells := 0, slots := 0, locals := 129 }) (mg dA D al ext) (mK sk sv) [.ref (al 64), .long w9] σ (mv_Rv (fun σ1 => FM σ σ1)) := by
  refine mv_C.ofV (cc := b_Machine_oneWith) (nL := 4) (ret := (Option.none : Option Jvm.ClassFile.FieldType)) (by decide +kernel) rfl hi (Nat.le_of_ble_eq_true rfl) ?_
  intro p e s m below meth c B hNs hr hnm hno
  have hP : PP 48 := by unfold PP; omega
  have j43 : ∀ (τ : mv_H) (u : Nat) (qR : Rf 48 (mv_r τ)) (qF : FM σ τ) (qT : Th 48 τ th sl) (qU : Un τ u), mv_V p l e ({ frames := 5, cells := 0, slots := 0, locals := 129 }) s m ([.ref (al 64), .long w9] : List Value).toArray below meth c (mg dA D al ext) 4 0 0 (mv_Q (mg dA D al ext) below s 0 0 (mv_Rv (fun σ1 => FM σ σ1))) τ 43 [(0, .ref (al 64))] [] := by
    intro τ u qR qF qT qU
    refine mv_aload_n (pc := 43) B d_Machine_oneWith_43 rfl 0 rfl ?_
    refine mv_getI (pc := 44) (ci := 9) (C := R_Machine) (T := F_Machine) (N := 13) B 9 rfl rfl (by decide) i_Machine (B.2.2.2.1 _ k_451) rfl d_Machine_oneWith_44 ?_
    refine mv_if_ne (pc := 47) (tgt := 67) B d_Machine_oneWith_47 rfl (fun h47 => ?_) (fun h47 => ?_)
    · skip
      refine mv_aload_n (pc := 67) B d_Machine_oneWith_67 rfl 0 rfl ?_
      refine mv_callVv (pc := 68) (n := 0) (ci := 9) (C := R_Machine) B (mK_ok sk sv) hNs rfl rfl (c_Machine_undo_b l hi _ qR u qU) rfl (ma_goodc kc_Machine_undo) (B.2.2.2.1 _ k_1639) (B.2.2.2.1 _ k_1641) (B.2.2.2.1 _ ks_76) (B.2.2.2.1 _ k_11) ⟨by decide +kernel, by decide +kernel, by decide +kernel⟩ rfl d_Machine_oneWith_68 rfl (Nat.le_of_ble_eq_true rfl) ⟨by decide, by decide⟩ ⟨by decide, by decide⟩ ⟨by decide, by decide⟩ (mv_noH hno _) (fun σ68 h68 => ?_)
      have g68 := (qF.tr h68.fm)
      refine mv_aload_n (pc := 71) B d_Machine_oneWith_71 rfl 0 rfl ?_
      refine mv_dup (pc := 72) B d_Machine_oneWith_72 rfl ?_
      refine mv_getI (pc := 73) (ci := 9) (C := R_Machine) (T := F_Machine) (N := 13) B 11 rfl rfl (by decide) i_Machine (B.2.2.2.1 _ k_455) rfl d_Machine_oneWith_73 ?_
      refine mv_iconst (pc := 76) (v := 1) B d_Machine_oneWith_76 (by decide) ?_
      refine mv_iadd (pc := 77) B d_Machine_oneWith_77 ?_
      refine mv_putI (pc := 78) (ci := 9) (C := R_Machine) (T := F_Machine) (N := 13) B 11 rfl rfl (by decide) i_Machine t_Machine_ok n_Machine (B.2.2.2.1 _ k_455) rfl rfl rfl rfl d_Machine_oneWith_78 ?_
      exact mv_vret (pc := 81) B hr d_Machine_oneWith_81 (Nat.le_refl _) (Nat.le_refl _) ⟨rfl, by first | exact g51.si rfl | exact g68.si rfl⟩
    · skip
      refine mv_aload_n (pc := 50) B d_Machine_oneWith_50 rfl 0 rfl ?_
      refine mv_callVv (pc := 51) (n := 0) (ci := 9) (C := R_Machine) B (mK_ok sk sv) hNs rfl rfl (c_Machine_goForth_b l hi _ qR th sl qT) rfl (ma_goodc kc_Machine_goForth) (B.2.2.2.1 _ k_1635) (B.2.2.2.1 _ k_1637) (B.2.2.2.1 _ ks_75) (B.2.2.2.1 _ k_11) ⟨by decide +kernel, by decide +kernel, by decide +kernel⟩ rfl d_Machine_oneWith_51 rfl (Nat.le_of_ble_eq_true rfl) ⟨by decide, by decide⟩ ⟨by decide, by decide⟩ ⟨by decide, by decide⟩ (mv_noH hno _) (fun σ51 h51 => ?_)
      have g51 := (qF.tr h51.fm)
      refine mv_aload_n (pc := 54) B d_Machine_oneWith_54 rfl 0 rfl ?_
      refine mv_dup (pc := 55) B d_Machine_oneWith_55 rfl ?_
      refine mv_getI (pc := 56) (ci := 9) (C := R_Machine) (T := F_Machine) (N := 13) B 10 rfl rfl (by decide) i_Machine (B.2.2.2.1 _ k_453) rfl d_Machine_oneWith_56 ?_
      refine mv_iconst (pc := 59) (v := 1) B d_Machine_oneWith_59 (by decide) ?_
      refine mv_iadd (pc := 60) B d_Machine_oneWith_60 ?_
      refine mv_putI (pc := 61) (ci := 9) (C := R_Machine) (T := F_Machine) (N := 13) B 10 rfl rfl (by decide) i_Machine t_Machine_ok n_Machine (B.2.2.2.1 _ k_453) rfl rfl rfl rfl d_Machine_oneWith_61 ?_
      refine mv_goto (pc := 64) (tgt := 81) B d_Machine_oneWith_64 rfl ?_
      exact mv_vret (pc := 81) B hr d_Machine_oneWith_81 (Nat.le_refl _) (Nat.le_refl _) ⟨rfl, by first | exact g51.si rfl | exact g68.si rfl⟩
  have j40 : ∀ (τ : mv_H) (x9 : Int32) (u : Nat) (qR : Rf 48 (mv_r τ)) (qF : FM σ τ) (qT : Th 48 τ th sl) (qU : Un τ u), mv_V p l e ({ frames := 5, cells := 0, slots := 0, locals := 129 }) s m ([.ref (al 64), .long w9] : List Value).toArray below meth c (mg dA D al ext) 4 0 0 (mv_Q (mg dA D al ext) below s 0 0 (mv_Rv (fun σ1 => FM σ σ1))) τ 40 [(0, .ref (al 64))] [.int x9, .ref (al 64)] := by
    intro τ x9 u qR qF qT qU
    refine mv_putI (pc := 40) (ci := 9) (C := R_Machine) (T := F_Machine) (N := 13) B 9 rfl rfl (by decide) i_Machine t_Machine_ok n_Machine (B.2.2.2.1 _ k_451) rfl rfl rfl rfl d_Machine_oneWith_40 ?_
    refine mv_lpick [0] rfl ?_
    exact j43 _ u qR (qF.si rfl) qT qU
  refine mv_aload_n (pc := 0) B d_Machine_oneWith_0 rfl 0 rfl ?_
  refine mv_iconst (pc := 1) (v := 0) B d_Machine_oneWith_1 (by decide) ?_
  refine mv_putI (pc := 2) (ci := 9) (C := R_Machine) (T := F_Machine) (N := 13) B 7 rfl rfl (by decide) i_Machine t_Machine_ok n_Machine (B.2.2.2.1 _ k_449) rfl rfl rfl rfl d_Machine_oneWith_2 ?_
  refine mv_aload_n (pc := 5) B d_Machine_oneWith_5 rfl 0 rfl ?_
  refine mv_iconst (pc := 6) (v := 0) B d_Machine_oneWith_6 (by decide) ?_
  refine mv_putI (pc := 7) (ci := 9) (C := R_Machine) (T := F_Machine) (N := 13) B 8 rfl rfl (by decide) i_Machine t_Machine_ok n_Machine (B.2.2.2.1 _ k_450) rfl rfl rfl rfl d_Machine_oneWith_7 ?_
  refine mv_gen (fun S eS => ?_)
  have sR : Rf 48 (mv_r S) := by rw [eS]; exact hR
  have sF : FM σ S := by rw [eS]; exact (FM0.si rfl).si rfl
  have sP := hP9.fm sF hP
  have sU : Un S 0 := by rw [eS]; exact ⟨rfl, by omega, fun j q => by omega⟩
  clear eS
  refine mv_aload_n (pc := 10) B d_Machine_oneWith_10 rfl 0 rfl ?_
  refine mv_lload_n (pc := 11) B d_Machine_oneWith_11 rfl 1 rfl ?_
  refine mv_callVi (pc := 12) (n := 1) (ci := 9) (C := R_Machine) B (mK_ok sk sv) hNs rfl rfl (c_Machine_opOf_b l hi _ _ sR (sP.2.elim (fun q => Or.inr q) (fun q => Or.inl q.1))) rfl (ma_goodc kc_Machine_opOf) (B.2.2.2.1 _ k_1576) (B.2.2.2.1 _ k_1561) (B.2.2.2.1 _ k_1562) (B.2.2.2.1 _ k_11) ⟨by decide +kernel, by decide +kernel, by decide +kernel⟩ rfl d_Machine_oneWith_12 rfl (Nat.le_of_ble_eq_true rfl) ⟨by decide, by decide⟩ ⟨by decide, by decide⟩ ⟨by decide, by decide⟩ (mv_noH hno _) (fun v12 σ12 h12 => ?_)
  obtain ⟨f12, d12⟩ := h12
  have F12 := sF.tr f12.fm
  have g12 := sP.fm f12.fm hP
  have sR : Rf 48 (mv_r σ12) := by rw [f12.2.2.2.2]; exact sR
  have u12 : Un σ12 0 := sU.fr (f12.1 _ _ (by decide)) (f12.2.1 _ (fun q => q))
  refine mv_istore_n (pc := 15) B d_Machine_oneWith_15 rfl (by decide) rfl ?_
  refine mv_aload_n (pc := 16) B d_Machine_oneWith_16 rfl 1 rfl ?_
  refine mv_iload_n (pc := 17) B d_Machine_oneWith_17 rfl 0 rfl ?_
  refine mv_if_ge (pc := 18) (tgt := 26) B d_Machine_oneWith_18 rfl (fun h18 => ?_) (fun h18 => ?_)
  · skip
    rw [Int32.le_iff_toInt_le] at h18
    simp only [Int32.reduceToInt] at h18
    obtain ⟨k0, k1, k2⟩ := d12.resolve_left (fun q => by rw [q] at h18; exact absurd h18 (by decide))
    obtain ⟨hg, sz, hc1, hc2, hc3, hc4, hc5, hc6⟩ : CodeOK 48 32768 σ12 th := (g12.2.resolve_left (fun q => q.no (k2.fm f12.fm hP))).2
    have ev := i32_cl (x := v12) k0
    obtain ⟨n9, hn9, hn1, hn2⟩ := hc5 v12.toNatClampNeg (by rw [f12.fm.i hP]; omega)
    have kM : (mv_i S 48 10).toInt ≤ 512 := by obtain ⟨ops, _, _, e1, e2, -⟩ := k2; omega
    refine mv_aload_n (pc := 26) B d_Machine_oneWith_26 rfl 1 rfl ?_
    refine mv_aload_n (pc := 27) B d_Machine_oneWith_27 rfl 1 rfl ?_
    refine mv_getR (pc := 28) (ci := 9) (C := R_Machine) (T := F_Machine) (N := 13) B 0 rfl rfl (by decide) i_Machine (B.2.2.2.1 _ k_440) rfl sR.2.2 d_Machine_oneWith_28 ?_
    refine mv_getR (pc := 31) (ci := 7) (C := R_Program) (T := F_Program) (N := 19) B 13 rfl rfl (by decide) i_Program (B.2.2.2.1 _ k_355) rfl (sR.2.1 _ 13 55 rfl) d_Machine_oneWith_31 ?_
    refine mv_iload_n (pc := 34) B d_Machine_oneWith_34 rfl 0 rfl ?_
    refine mv_iald (pc := 35) B rfl (i32_in k0 (by omega)) d_Machine_oneWith_35 ?_
    refine mv_lload_n (pc := 36) B d_Machine_oneWith_36 rfl 2 rfl ?_
    refine mv_callVi (pc := 37) (n := 2) (ci := 9) (C := R_Machine) B (mK_ok sk sv) hNs rfl rfl (c_Machine_perform_b l hi _ _ _ sR th sl g12.1 hg sz hc1 hc2 hc3 hc4 n9 hn9 hn1 hn2 hc6 u12) rfl (ma_goodc kc_Machine_perform) (B.2.2.2.1 _ k_1577) (B.2.2.2.1 _ k_1579) (B.2.2.2.1 _ ks_69) (B.2.2.2.1 _ k_11) ⟨by decide +kernel, by decide +kernel, by decide +kernel⟩ rfl d_Machine_oneWith_37 rfl (Nat.le_of_ble_eq_true rfl) ⟨by decide, by decide⟩ ⟨by decide, by decide⟩ ⟨by decide, by decide⟩ (mv_noH hno _) (fun v37 σ37 h37 => ?_)
    obtain ⟨f37, u, u37⟩ := h37
    refine mv_lpick [1] rfl ?_
    first | exact j40 _ _ _ (by rw [f37.2.2.2.2]; exact sR) (F12.tr f37.fm) (g12.1.fm f37.fm hP) u37 | exact j40 _ _ _ sR F12 g12.1 u12
  · skip
    refine mv_bipush (pc := 21) (v := -2) B d_Machine_oneWith_21 (by decide) ?_
    refine mv_goto (pc := 23) (tgt := 40) B d_Machine_oneWith_23 rfl ?_
    refine mv_lpick [1] rfl ?_
    first | exact j40 _ _ _ (by rw [f37.2.2.2.2]; exact sR) (F12.tr f37.fm) (g12.1.fm f37.fm hP) u37 | exact j40 _ _ _ sR F12 g12.1 u12
set_option maxHeartbeats 4000000 in
set_option maxRecDepth 100000 in
theorem c_Machine_oneWith_c (l : Launch) {dA : FieldType → ClassId} {D : va_G} {al : Nat → Nat} {sk sv : Nat → Nat} (hi : mv_inj (mg dA D al me)) (σ : mv_H) (w9 : Int64) (hR : Rf 145 (mv_r σ)) (th sl : Nat) (hP9 : ProgOK 145 8192 48 σ th sl) : mv_C l y_Machine_oneWith (Cond.code y_Machine_oneWith b_Machine_oneWith 4 (Option.none : Option Jvm.ClassFile.FieldType) :: ma) ({ frames := 5, cells := 0, slots := 0, locals := 129 }) (mg dA D al me) (mK sk sv) [.ref (al 64), .long w9] σ (mv_Rv (fun σ1 => FM σ σ1)) := by
  refine mv_C.ofV (cc := b_Machine_oneWith) (nL := 4) (ret := (Option.none : Option Jvm.ClassFile.FieldType)) (by decide +kernel) rfl hi (Nat.le_of_ble_eq_true rfl) ?_
  intro p e s m below meth c B hNs hr hnm hno
  have hP : PP 145 := by unfold PP; omega
  have j43 : ∀ (τ : mv_H) (u : Nat) (qR : Rf 145 (mv_r τ)) (qF : FM σ τ) (qT : Th 145 τ th sl) (qU : Un τ u), mv_V p l e ({ frames := 5, cells := 0, slots := 0, locals := 129 }) s m ([.ref (al 64), .long w9] : List Value).toArray below meth c (mg dA D al me) 4 0 0 (mv_Q (mg dA D al me) below s 0 0 (mv_Rv (fun σ1 => FM σ σ1))) τ 43 [(0, .ref (al 64))] [] := by
    intro τ u qR qF qT qU
    refine mv_aload_n (pc := 43) B d_Machine_oneWith_43 rfl 0 rfl ?_
    refine mv_getI (pc := 44) (ci := 9) (C := R_Machine) (T := F_Machine) (N := 13) B 9 rfl rfl (by decide) i_Machine (B.2.2.2.1 _ k_451) rfl d_Machine_oneWith_44 ?_
    refine mv_if_ne (pc := 47) (tgt := 67) B d_Machine_oneWith_47 rfl (fun h47 => ?_) (fun h47 => ?_)
    · skip
      refine mv_aload_n (pc := 67) B d_Machine_oneWith_67 rfl 0 rfl ?_
      refine mv_callVv (pc := 68) (n := 0) (ci := 9) (C := R_Machine) B (mK_ok sk sv) hNs rfl rfl (c_Machine_undo_c l hi _ qR u qU) rfl (ma_goodc kc_Machine_undo) (B.2.2.2.1 _ k_1639) (B.2.2.2.1 _ k_1641) (B.2.2.2.1 _ ks_76) (B.2.2.2.1 _ k_11) ⟨by decide +kernel, by decide +kernel, by decide +kernel⟩ rfl d_Machine_oneWith_68 rfl (Nat.le_of_ble_eq_true rfl) ⟨by decide, by decide⟩ ⟨by decide, by decide⟩ ⟨by decide, by decide⟩ (mv_noH hno _) (fun σ68 h68 => ?_)
      have g68 := (qF.tr h68.fm)
      refine mv_aload_n (pc := 71) B d_Machine_oneWith_71 rfl 0 rfl ?_
      refine mv_dup (pc := 72) B d_Machine_oneWith_72 rfl ?_
      refine mv_getI (pc := 73) (ci := 9) (C := R_Machine) (T := F_Machine) (N := 13) B 11 rfl rfl (by decide) i_Machine (B.2.2.2.1 _ k_455) rfl d_Machine_oneWith_73 ?_
      refine mv_iconst (pc := 76) (v := 1) B d_Machine_oneWith_76 (by decide) ?_
      refine mv_iadd (pc := 77) B d_Machine_oneWith_77 ?_
      refine mv_putI (pc := 78) (ci := 9) (C := R_Machine) (T := F_Machine) (N := 13) B 11 rfl rfl (by decide) i_Machine t_Machine_ok n_Machine (B.2.2.2.1 _ k_455) rfl rfl rfl rfl d_Machine_oneWith_78 ?_
      exact mv_vret (pc := 81) B hr d_Machine_oneWith_81 (Nat.le_refl _) (Nat.le_refl _) ⟨rfl, by first | exact g51.si rfl | exact g68.si rfl⟩
    · skip
      refine mv_aload_n (pc := 50) B d_Machine_oneWith_50 rfl 0 rfl ?_
      refine mv_callVv (pc := 51) (n := 0) (ci := 9) (C := R_Machine) B (mK_ok sk sv) hNs rfl rfl (c_Machine_goForth_c l hi _ qR th sl qT) rfl (ma_goodc kc_Machine_goForth) (B.2.2.2.1 _ k_1635) (B.2.2.2.1 _ k_1637) (B.2.2.2.1 _ ks_75) (B.2.2.2.1 _ k_11) ⟨by decide +kernel, by decide +kernel, by decide +kernel⟩ rfl d_Machine_oneWith_51 rfl (Nat.le_of_ble_eq_true rfl) ⟨by decide, by decide⟩ ⟨by decide, by decide⟩ ⟨by decide, by decide⟩ (mv_noH hno _) (fun σ51 h51 => ?_)
      have g51 := (qF.tr h51.fm)
      refine mv_aload_n (pc := 54) B d_Machine_oneWith_54 rfl 0 rfl ?_
      refine mv_dup (pc := 55) B d_Machine_oneWith_55 rfl ?_
      refine mv_getI (pc := 56) (ci := 9) (C := R_Machine) (T := F_Machine) (N := 13) B 10 rfl rfl (by decide) i_Machine (B.2.2.2.1 _ k_453) rfl d_Machine_oneWith_56 ?_
      refine mv_iconst (pc := 59) (v := 1) B d_Machine_oneWith_59 (by decide) ?_
      refine mv_iadd (pc := 60) B d_Machine_oneWith_60 ?_
      refine mv_putI (pc := 61) (ci := 9) (C := R_Machine) (T := F_Machine) (N := 13) B 10 rfl rfl (by decide) i_Machine t_Machine_ok n_Machine (B.2.2.2.1 _ k_453) rfl rfl rfl rfl d_Machine_oneWith_61 ?_
      refine mv_goto (pc := 64) (tgt := 81) B d_Machine_oneWith_64 rfl ?_
      exact mv_vret (pc := 81) B hr d_Machine_oneWith_81 (Nat.le_refl _) (Nat.le_refl _) ⟨rfl, by first | exact g51.si rfl | exact g68.si rfl⟩
  have j40 : ∀ (τ : mv_H) (x9 : Int32) (u : Nat) (qR : Rf 145 (mv_r τ)) (qF : FM σ τ) (qT : Th 145 τ th sl) (qU : Un τ u), mv_V p l e ({ frames := 5, cells := 0, slots := 0, locals := 129 }) s m ([.ref (al 64), .long w9] : List Value).toArray below meth c (mg dA D al me) 4 0 0 (mv_Q (mg dA D al me) below s 0 0 (mv_Rv (fun σ1 => FM σ σ1))) τ 40 [(0, .ref (al 64))] [.int x9, .ref (al 64)] := by
    intro τ x9 u qR qF qT qU
    refine mv_putI (pc := 40) (ci := 9) (C := R_Machine) (T := F_Machine) (N := 13) B 9 rfl rfl (by decide) i_Machine t_Machine_ok n_Machine (B.2.2.2.1 _ k_451) rfl rfl rfl rfl d_Machine_oneWith_40 ?_
    refine mv_lpick [0] rfl ?_
    exact j43 _ u qR (qF.si rfl) qT qU
  refine mv_aload_n (pc := 0) B d_Machine_oneWith_0 rfl 0 rfl ?_
  refine mv_iconst (pc := 1) (v := 0) B d_Machine_oneWith_1 (by decide) ?_
  refine mv_putI (pc := 2) (ci := 9) (C := R_Machine) (T := F_Machine) (N := 13) B 7 rfl rfl (by decide) i_Machine t_Machine_ok n_Machine (B.2.2.2.1 _ k_449) rfl rfl rfl rfl d_Machine_oneWith_2 ?_
  refine mv_aload_n (pc := 5) B d_Machine_oneWith_5 rfl 0 rfl ?_
  refine mv_iconst (pc := 6) (v := 0) B d_Machine_oneWith_6 (by decide) ?_
  refine mv_putI (pc := 7) (ci := 9) (C := R_Machine) (T := F_Machine) (N := 13) B 8 rfl rfl (by decide) i_Machine t_Machine_ok n_Machine (B.2.2.2.1 _ k_450) rfl rfl rfl rfl d_Machine_oneWith_7 ?_
  refine mv_gen (fun S eS => ?_)
  have sR : Rf 145 (mv_r S) := by rw [eS]; exact hR
  have sF : FM σ S := by rw [eS]; exact (FM0.si rfl).si rfl
  have sP := hP9.fm sF hP
  have sU : Un S 0 := by rw [eS]; exact ⟨rfl, by omega, fun j q => by omega⟩
  clear eS
  refine mv_aload_n (pc := 10) B d_Machine_oneWith_10 rfl 0 rfl ?_
  refine mv_lload_n (pc := 11) B d_Machine_oneWith_11 rfl 1 rfl ?_
  refine mv_callVi (pc := 12) (n := 1) (ci := 9) (C := R_Machine) B (mK_ok sk sv) hNs rfl rfl (c_Machine_opOf_c l hi _ _ sR (sP.2.elim (fun q => Or.inr q) (fun q => Or.inl q.1))) rfl (ma_goodc kc_Machine_opOf) (B.2.2.2.1 _ k_1576) (B.2.2.2.1 _ k_1561) (B.2.2.2.1 _ k_1562) (B.2.2.2.1 _ k_11) ⟨by decide +kernel, by decide +kernel, by decide +kernel⟩ rfl d_Machine_oneWith_12 rfl (Nat.le_of_ble_eq_true rfl) ⟨by decide, by decide⟩ ⟨by decide, by decide⟩ ⟨by decide, by decide⟩ (mv_noH hno _) (fun v12 σ12 h12 => ?_)
  obtain ⟨f12, d12⟩ := h12
  have F12 := sF.tr f12.fm
  have g12 := sP.fm f12.fm hP
  have sR : Rf 145 (mv_r σ12) := by rw [f12.2.2.2.2]; exact sR
  have u12 : Un σ12 0 := sU.fr (f12.1 _ _ (by decide)) (f12.2.1 _ (fun q => q))
  refine mv_istore_n (pc := 15) B d_Machine_oneWith_15 rfl (by decide) rfl ?_
  refine mv_aload_n (pc := 16) B d_Machine_oneWith_16 rfl 1 rfl ?_
  refine mv_iload_n (pc := 17) B d_Machine_oneWith_17 rfl 0 rfl ?_
  refine mv_if_ge (pc := 18) (tgt := 26) B d_Machine_oneWith_18 rfl (fun h18 => ?_) (fun h18 => ?_)
  · skip
    rw [Int32.le_iff_toInt_le] at h18
    simp only [Int32.reduceToInt] at h18
    obtain ⟨k0, k1, k2⟩ := d12.resolve_left (fun q => by rw [q] at h18; exact absurd h18 (by decide))
    obtain ⟨hg, sz, hc1, hc2, hc3, hc4, hc5, hc6⟩ : CodeOK 145 8192 σ12 th := (g12.2.resolve_left (fun q => q.no (k2.fm f12.fm hP))).2
    have ev := i32_cl (x := v12) k0
    obtain ⟨n9, hn9, hn1, hn2⟩ := hc5 v12.toNatClampNeg (by rw [f12.fm.i hP]; omega)
    have kM : (mv_i S 145 10).toInt ≤ 48 := by obtain ⟨ops, _, _, e1, e2, -⟩ := k2; omega
    refine mv_aload_n (pc := 26) B d_Machine_oneWith_26 rfl 1 rfl ?_
    refine mv_aload_n (pc := 27) B d_Machine_oneWith_27 rfl 1 rfl ?_
    refine mv_getR (pc := 28) (ci := 9) (C := R_Machine) (T := F_Machine) (N := 13) B 0 rfl rfl (by decide) i_Machine (B.2.2.2.1 _ k_440) rfl sR.2.2 d_Machine_oneWith_28 ?_
    refine mv_getR (pc := 31) (ci := 7) (C := R_Program) (T := F_Program) (N := 19) B 13 rfl rfl (by decide) i_Program (B.2.2.2.1 _ k_355) rfl (sR.2.1 _ 13 152 rfl) d_Machine_oneWith_31 ?_
    refine mv_iload_n (pc := 34) B d_Machine_oneWith_34 rfl 0 rfl ?_
    refine mv_iald (pc := 35) B rfl (i32_in k0 (by omega)) d_Machine_oneWith_35 ?_
    refine mv_lload_n (pc := 36) B d_Machine_oneWith_36 rfl 2 rfl ?_
    refine mv_callVi (pc := 37) (n := 2) (ci := 9) (C := R_Machine) B (mK_ok sk sv) hNs rfl rfl (c_Machine_perform_c l hi _ _ _ sR th sl g12.1 hg sz hc1 hc2 hc3 hc4 n9 hn9 hn1 hn2 hc6 u12) rfl (ma_goodc kc_Machine_perform) (B.2.2.2.1 _ k_1577) (B.2.2.2.1 _ k_1579) (B.2.2.2.1 _ ks_69) (B.2.2.2.1 _ k_11) ⟨by decide +kernel, by decide +kernel, by decide +kernel⟩ rfl d_Machine_oneWith_37 rfl (Nat.le_of_ble_eq_true rfl) ⟨by decide, by decide⟩ ⟨by decide, by decide⟩ ⟨by decide, by decide⟩ (mv_noH hno _) (fun v37 σ37 h37 => ?_)
    obtain ⟨f37, u, u37⟩ := h37
    refine mv_lpick [1] rfl ?_
    first | exact j40 _ _ _ (by rw [f37.2.2.2.2]; exact sR) (F12.tr f37.fm) (g12.1.fm f37.fm hP) u37 | exact j40 _ _ _ sR F12 g12.1 u12
  · skip
    refine mv_bipush (pc := 21) (v := -2) B d_Machine_oneWith_21 (by decide) ?_
    refine mv_goto (pc := 23) (tgt := 40) B d_Machine_oneWith_23 rfl ?_
    refine mv_lpick [1] rfl ?_
    first | exact j40 _ _ _ (by rw [f37.2.2.2.2]; exact sR) (F12.tr f37.fm) (g12.1.fm f37.fm hP) u37 | exact j40 _ _ _ sR F12 g12.1 u12
theorem len8 {x : Int32} (h0 : 0 ≤ x.toInt) (h1 : x.toInt ≤ 64) : 0 ≤ (x / 8).toInt ∧ (x / 8).toInt ≤ 8 := by
  rw [Int32.toInt_div_of_ne_right x 8 (by decide)]
  show 0 ≤ x.toInt.tdiv 8 ∧ x.toInt.tdiv 8 ≤ 8
  rw [Int.tdiv_eq_ediv_of_nonneg h0]
  omega
def y_Machine_many : MethodName := ⟨"MachineLoom$Machine", "many", "(I)I"⟩
abbrev b_Machine_many : ByteArray := prog_5_method_6_code
theorem kc_Machine_many : Cond.code y_Machine_many b_Machine_many 7 (Option.some Jvm.ClassFile.FieldType.int) ∈ ma := ma_of (tb_8 _ (List.mem_of_getElem? (i := 116) rfl)) rfl
theorem k_1797 : (Jvm.Cond.methodLink "MachineLoom$Machine" (131 : Nat) ({ cls := "MachineLoom$Machine", name := "wordAt", desc := "(II)J" } : Jvm.MethodName)) ∈ ma := ma_of (tb_8 _ (List.mem_of_getElem? (i := 117) rfl)) rfl
theorem k_1799 : (Jvm.Cond.instanceMethod ({ cls := "MachineLoom$Machine", name := "wordAt", desc := "(II)J" } : Jvm.MethodName)) ∈ ma := ma_of (tb_8 _ (List.mem_of_getElem? (i := 119) rfl)) rfl
theorem ks_78 : Cond.selects "MachineLoom$Machine" ⟨"MachineLoom$Machine", "wordAt", "(II)J"⟩ ⟨"MachineLoom$Machine", "wordAt", "(II)J"⟩ ∈ ma := ma_sel 78 rfl rfl
theorem k_1801 : (Jvm.Cond.methodLink "MachineLoom$Machine" (135 : Nat) ({ cls := "MachineLoom$Machine", name := "oneWith", desc := "(J)V" } : Jvm.MethodName)) ∈ ma := ma_of (tb_8 _ (List.mem_of_getElem? (i := 121) rfl)) rfl
theorem k_1573 : (Jvm.Cond.instanceMethod ({ cls := "MachineLoom$Machine", name := "oneWith", desc := "(J)V" } : Jvm.MethodName)) ∈ ma := ma_of (tb_7 _ (List.mem_of_getElem? (i := 133) rfl)) rfl
theorem k_1574 : (Jvm.Cond.selects "MachineLoom$Machine" ({ cls := "MachineLoom$Machine", name := "oneWith", desc := "(J)V" } : Jvm.MethodName) ({ cls := "MachineLoom$Machine", name := "oneWith", desc := "(J)V" } : Jvm.MethodName)) ∈ ma := ma_of (tb_7 _ (List.mem_of_getElem? (i := 134) rfl)) rfl
theorem k_341 : (Jvm.Cond.fieldLink "MachineLoom$Machine" (122 : Nat) "MachineLoom$Program" "fetchFile" "I") ∈ ma := ma_of (tb_2 _ (List.mem_of_getElem? (i := 101) rfl)) rfl
theorem d_Machine_many_0 : decode b_Machine_many 0 = .ok (.aload_n 0, 1) := by decide +kernel
theorem d_Machine_many_1 : decode b_Machine_many 1 = .ok (.getfield 29, 3) := by decide +kernel
theorem d_Machine_many_4 : decode b_Machine_many 4 = .ok (.getfield 119, 3) := by decide +kernel
theorem d_Machine_many_7 : decode b_Machine_many 7 = .ok (.bipush 8, 2) := by decide +kernel
theorem d_Machine_many_9 : decode b_Machine_many 9 = .ok (.idiv, 1) := by decide +kernel
theorem d_Machine_many_10 : decode b_Machine_many 10 = .ok (.istore_n 2, 1) := by decide +kernel
theorem d_Machine_many_11 : decode b_Machine_many 11 = .ok (.aload_n 0, 1) := by decide +kernel
theorem d_Machine_many_12 : decode b_Machine_many 12 = .ok (.getfield 29, 3) := by decide +kernel
theorem d_Machine_many_15 : decode b_Machine_many 15 = .ok (.getfield 122, 3) := by decide +kernel
theorem d_Machine_many_18 : decode b_Machine_many 18 = .ok (.istore_n 3, 1) := by decide +kernel
theorem d_Machine_many_19 : decode b_Machine_many 19 = .ok (.iconst 0, 1) := by decide +kernel
theorem d_Machine_many_20 : decode b_Machine_many 20 = .ok (.istore 4, 2) := by decide +kernel
theorem d_Machine_many_22 : decode b_Machine_many 22 = .ok (.iload 4, 2) := by decide +kernel
theorem d_Machine_many_24 : decode b_Machine_many 24 = .ok (.iload_n 1, 1) := by decide +kernel
theorem d_Machine_many_25 : decode b_Machine_many 25 = .ok (.if_icmp .ge (106), 3) := by decide +kernel
theorem d_Machine_many_28 : decode b_Machine_many 28 = .ok (.aload_n 0, 1) := by decide +kernel
theorem d_Machine_many_29 : decode b_Machine_many 29 = .ok (.getfield 10, 3) := by decide +kernel
theorem d_Machine_many_32 : decode b_Machine_many 32 = .ok (.aload_n 0, 1) := by decide +kernel
theorem d_Machine_many_33 : decode b_Machine_many 33 = .ok (.getfield 29, 3) := by decide +kernel
theorem d_Machine_many_36 : decode b_Machine_many 36 = .ok (.getfield 55, 3) := by decide +kernel
theorem d_Machine_many_39 : decode b_Machine_many 39 = .ok (.aload_n 0, 1) := by decide +kernel
theorem d_Machine_many_40 : decode b_Machine_many 40 = .ok (.getfield 29, 3) := by decide +kernel
theorem d_Machine_many_43 : decode b_Machine_many 43 = .ok (.getfield 125, 3) := by decide +kernel
theorem d_Machine_many_46 : decode b_Machine_many 46 = .ok (.iaload, 1) := by decide +kernel
theorem d_Machine_many_47 : decode b_Machine_many 47 = .ok (.laload, 1) := by decide +kernel
theorem d_Machine_many_48 : decode b_Machine_many 48 = .ok (.lstore 5, 2) := by decide +kernel
theorem d_Machine_many_50 : decode b_Machine_many 50 = .ok (.lload 5, 2) := by decide +kernel
theorem d_Machine_many_52 : decode b_Machine_many 52 = .ok (.lconst 0, 1) := by decide +kernel
theorem d_Machine_many_53 : decode b_Machine_many 53 = .ok (.lcmp, 1) := by decide +kernel
theorem d_Machine_many_54 : decode b_Machine_many 54 = .ok (.ifCond .lt (21), 3) := by decide +kernel
theorem d_Machine_many_57 : decode b_Machine_many 57 = .ok (.lload 5, 2) := by decide +kernel
theorem d_Machine_many_59 : decode b_Machine_many 59 = .ok (.aload_n 0, 1) := by decide +kernel
theorem d_Machine_many_60 : decode b_Machine_many 60 = .ok (.getfield 29, 3) := by decide +kernel
theorem d_Machine_many_63 : decode b_Machine_many 63 = .ok (.getfield 128, 3) := by decide +kernel
theorem d_Machine_many_66 : decode b_Machine_many 66 = .ok (.iload_n 3, 1) := by decide +kernel
theorem d_Machine_many_67 : decode b_Machine_many 67 = .ok (.iaload, 1) := by decide +kernel
theorem d_Machine_many_68 : decode b_Machine_many 68 = .ok (.iload_n 2, 1) := by decide +kernel
theorem d_Machine_many_69 : decode b_Machine_many 69 = .ok (.isub, 1) := by decide +kernel
theorem d_Machine_many_70 : decode b_Machine_many 70 = .ok (.i2l, 1) := by decide +kernel
theorem d_Machine_many_71 : decode b_Machine_many 71 = .ok (.lcmp, 1) := by decide +kernel
theorem d_Machine_many_72 : decode b_Machine_many 72 = .ok (.ifCond .le (21), 3) := by decide +kernel
theorem d_Machine_many_75 : decode b_Machine_many 75 = .ok (.aload_n 0, 1) := by decide +kernel
theorem d_Machine_many_76 : decode b_Machine_many 76 = .ok (.iconst (-1), 1) := by decide +kernel
theorem d_Machine_many_77 : decode b_Machine_many 77 = .ok (.putfield 110, 3) := by decide +kernel
theorem d_Machine_many_80 : decode b_Machine_many 80 = .ok (.aload_n 0, 1) := by decide +kernel
theorem d_Machine_many_81 : decode b_Machine_many 81 = .ok (.dup, 1) := by decide +kernel
theorem d_Machine_many_82 : decode b_Machine_many 82 = .ok (.getfield 48, 3) := by decide +kernel
theorem d_Machine_many_85 : decode b_Machine_many 85 = .ok (.iconst 1, 1) := by decide +kernel
theorem d_Machine_many_86 : decode b_Machine_many 86 = .ok (.iadd, 1) := by decide +kernel
theorem d_Machine_many_87 : decode b_Machine_many 87 = .ok (.putfield 48, 3) := by decide +kernel
theorem d_Machine_many_90 : decode b_Machine_many 90 = .ok (.goto (25), 3) := by decide +kernel
theorem d_Machine_many_93 : decode b_Machine_many 93 = .ok (.aload_n 0, 1) := by decide +kernel
theorem d_Machine_many_94 : decode b_Machine_many 94 = .ok (.aload_n 0, 1) := by decide +kernel
theorem d_Machine_many_95 : decode b_Machine_many 95 = .ok (.aload_n 0, 1) := by decide +kernel
theorem d_Machine_many_96 : decode b_Machine_many 96 = .ok (.getfield 29, 3) := by decide +kernel
theorem d_Machine_many_99 : decode b_Machine_many 99 = .ok (.getfield 55, 3) := by decide +kernel
theorem d_Machine_many_102 : decode b_Machine_many 102 = .ok (.iload_n 3, 1) := by decide +kernel
theorem d_Machine_many_103 : decode b_Machine_many 103 = .ok (.iaload, 1) := by decide +kernel
theorem d_Machine_many_104 : decode b_Machine_many 104 = .ok (.lload 5, 2) := by decide +kernel
theorem d_Machine_many_106 : decode b_Machine_many 106 = .ok (.l2i, 1) := by decide +kernel
theorem d_Machine_many_107 : decode b_Machine_many 107 = .ok (.iadd, 1) := by decide +kernel
theorem d_Machine_many_108 : decode b_Machine_many 108 = .ok (.iload_n 2, 1) := by decide +kernel
theorem d_Machine_many_109 : decode b_Machine_many 109 = .ok (.invokevirtual 131, 3) := by decide +kernel
theorem d_Machine_many_112 : decode b_Machine_many 112 = .ok (.invokevirtual 135, 3) := by decide +kernel
theorem d_Machine_many_115 : decode b_Machine_many 115 = .ok (.aload_n 0, 1) := by decide +kernel
theorem d_Machine_many_116 : decode b_Machine_many 116 = .ok (.getfield 110, 3) := by decide +kernel
theorem d_Machine_many_119 : decode b_Machine_many 119 = .ok (.ifCond .eq (6), 3) := by decide +kernel
theorem d_Machine_many_122 : decode b_Machine_many 122 = .ok (.iload 4, 2) := by decide +kernel
theorem d_Machine_many_124 : decode b_Machine_many 124 = .ok (.ireturn, 1) := by decide +kernel
theorem d_Machine_many_125 : decode b_Machine_many 125 = .ok (.iinc 4 (1), 3) := by decide +kernel
theorem d_Machine_many_128 : decode b_Machine_many 128 = .ok (.goto (-106), 3) := by decide +kernel
theorem d_Machine_many_131 : decode b_Machine_many 131 = .ok (.iload_n 1, 1) := by decide +kernel
theorem d_Machine_many_132 : decode b_Machine_many 132 = .ok (.ireturn, 1) := by decide +kernel
set_option maxHeartbeats 4000000 in
set_option maxRecDepth 100000 in
theorem c_Machine_many_a (l : Launch) {dA : FieldType → ClassId} {D : va_G} {al : Nat → Nat} {ext : mv_Sh} {sk sv : Nat → Nat} (hi : mv_inj (mg dA D al ext)) (σ : mv_H) (n9 : Int32) (hR : Rf 32 (mv_r σ)) (th sl : Nat) (hP9 : ProgOK 32 32768 512 σ th sl) (hn : n9.toInt ≤ 500) (hf : 0 ≤ (mv_i σ 32 9).toInt) : mv_C l y_Machine_many (Cond.code y_Machine_many b_Machine_many 7 (Option.some Jvm.ClassFile.FieldType.int) :: ma) ({ frames := 6, cells := 0, slots := 0, locals := 152 }) (mg dA D al ext) (mK sk sv) [.ref (al 64), .int n9] σ (mv_Ri (fun _ σ1 => FM σ σ1)) := by
  refine mv_C.ofV (cc := b_Machine_many) (nL := 7) (ret := (Option.some Jvm.ClassFile.FieldType.int)) (by decide +kernel) rfl hi (Nat.le_of_ble_eq_true rfl) ?_
  intro p e s m below meth c B hNs hr hnm hno
  have hP : PP 32 := by unfold PP; omega
  have hT := hP9.1
  have hln := len8 hT.2.2.2.2.1 hT.2.2.2.2.2.1
  have ht9 := hT.2.2.2.2.2.2.2.resolve_left (fun q => by omega)
  have hr9 := i32_cl (x := mv_i σ 32 9) hf
  have hr8 := i32_cl (x := mv_i σ 32 8) ht9.1
  obtain ⟨c9, f9, hc9, hf9, hs1, hs2⟩ := hT.2.2.2.2.2.2.1 (mv_i σ 32 9).toNatClampNeg (by omega)
  obtain ⟨c8, f8, hc8, hf8, hs3, hs4⟩ := hT.2.2.2.2.2.2.1 (mv_i σ 32 8).toNatClampNeg (by omega)
  have hsl := hT.2.2.2.1
  have ht64 := hT.2.1
  have lp : ∀ (nn : Nat) (τ : mv_H) (jj : Int32) (q0 : 0 ≤ jj.toInt) (q1 : jj.toInt ≤ 500) (qR : Rf 32 (mv_r τ)) (qF : FM σ τ), (501 - jj.toInt).toNat < nn → mv_V p l e ({ frames := 6, cells := 0, slots := 0, locals := 152 }) s m ([.ref (al 64), .int n9] : List Value).toArray below meth c (mg dA D al ext) 7 0 0 (mv_Q (mg dA D al ext) below s 0 0 (mv_Ri (fun _ σ1 => FM σ σ1))) τ 22 [(4, .int jj), (3, .int (mv_i σ 32 9)), (2, .int (mv_i σ 32 0 / 8)), (0, .ref (al 64)), (1, .int n9)] [] := by
    intro nn
    induction nn with
    | zero => intro τ jj q0 q1 qR qF hm; exact absurd hm (Nat.not_lt_zero _)
    | succ nn ih =>
      intro τ jj q0 q1 qR qF hm
      have j115 : ∀ (τ2 : mv_H) (jj : Int32) (w2 : (jj + 1).toInt = jj.toInt + 1) (q0 : 0 ≤ jj.toInt) (qm : (501 - (jj + 1).toInt).toNat < nn ∧ (jj + 1).toInt ≤ 500) (gR : Rf 32 (mv_r τ2)) (gF : FM σ τ2), mv_V p l e ({ frames := 6, cells := 0, slots := 0, locals := 152 }) s m ([.ref (al 64), .int n9] : List Value).toArray below meth c (mg dA D al ext) 7 0 0 (mv_Q (mg dA D al ext) below s 0 0 (mv_Ri (fun _ σ1 => FM σ σ1))) τ2 115 [(4, .int jj), (3, .int (mv_i σ 32 9)), (2, .int (mv_i σ 32 0 / 8)), (0, .ref (al 64)), (1, .int n9)] [] := by
        intro τ2 jj w2 q0 qm gR gF
        refine mv_aload_n (pc := 115) B d_Machine_many_115 rfl 3 rfl ?_
        refine mv_getI (pc := 116) (ci := 9) (C := R_Machine) (T := F_Machine) (N := 13) B 9 rfl rfl (by decide) i_Machine (B.2.2.2.1 _ k_451) rfl d_Machine_many_116 ?_
        refine mv_if_eq (pc := 119) (tgt := 125) B d_Machine_many_119 rfl (fun h119 => ?_) (fun h119 => ?_)
        · skip
          have go := ih τ2 (jj + 1) (by omega) (by omega) gR gF (by omega)
          refine mv_iinc (pc := 125) (j := 0) (v := 1) B d_Machine_many_125 rfl (by decide) (by decide) rfl ?_
          refine mv_goto (pc := 128) (tgt := 22) B d_Machine_many_128 rfl ?_
          refine mv_lpick [0, 1, 2, 3, 4] rfl ?_
          exact go
        · skip
          refine mv_iload (pc := 122) B d_Machine_many_122 0 rfl ?_
          exact mv_iret (pc := 124) B hr rfl d_Machine_many_124 (Nat.le_refl _) (Nat.le_refl _) ⟨_, rfl, gF⟩
      have e8 : mv_i τ 32 = mv_i σ 32 := funext fun _ => qF.i hP
      have e2 : mv_a τ 34 = mv_a σ 34 := qF.a (P := 32) (j := 2) hP (by omega)
      have e3 : mv_a τ 35 = mv_a σ 35 := qF.a (P := 32) (j := 3) hP (by omega)
      have b0 : (mv_a τ 34 (mv_i σ 32 9).toNatClampNeg).toInt = c9 := by rw [e2]; exact hc9
      have b1 : (mv_a τ 35 (mv_i σ 32 9).toNatClampNeg).toInt = f9 := by rw [e3]; exact hf9
      have b2 : (mv_a τ 35 (mv_i τ 32 8).toNatClampNeg).toInt = f8 := by rw [e3, e8]; exact hf8
      have b3 : 0 ≤ (mv_i τ 32 8).toInt := by rw [e8]; exact ht9.1
      have b4 : (mv_i τ 32 8).toInt < th := by rw [e8]; exact ht9.2.1
      have qP := hP9.fm qF hP
      refine mv_iload (pc := 22) B d_Machine_many_22 0 rfl ?_
      refine mv_iload_n (pc := 24) B d_Machine_many_24 rfl 4 rfl ?_
      refine mv_icmp_ge (pc := 25) (tgt := 131) B d_Machine_many_25 rfl (fun h25 => ?_) (fun h25 => ?_)
      · skip
        refine mv_iload_n (pc := 131) B d_Machine_many_131 rfl 4 rfl ?_
        exact mv_iret (pc := 132) B hr rfl d_Machine_many_132 (Nat.le_refl _) (Nat.le_refl _) ⟨_, rfl, qF⟩
      · skip
        rw [Int32.le_iff_toInt_le] at h25
        have hmx := i32_rng n9
        have w2 : (jj + 1).toInt = jj.toInt + 1 := i32_inc (by omega)
        obtain ⟨ix, eix⟩ : ∃ x, x = mv_b τ 65 (mv_a τ 35 (mv_i τ 32 8).toNatClampNeg).toNatClampNeg := ⟨_, rfl⟩
        refine mv_aload_n (pc := 28) B d_Machine_many_28 rfl 3 rfl ?_
        refine mv_getR (pc := 29) (ci := 9) (C := R_Machine) (T := F_Machine) (N := 13) B 1 rfl rfl (by decide) i_Machine (B.2.2.2.1 _ k_442) rfl (qR.1 _ 1 _ rfl) d_Machine_many_29 ?_
        refine mv_aload_n (pc := 32) B d_Machine_many_32 rfl 3 rfl ?_
        refine mv_getR (pc := 33) (ci := 9) (C := R_Machine) (T := F_Machine) (N := 13) B 0 rfl rfl (by decide) i_Machine (B.2.2.2.1 _ k_440) rfl qR.2.2 d_Machine_many_33 ?_
        refine mv_getR (pc := 36) (ci := 7) (C := R_Program) (T := F_Program) (N := 19) B 4 rfl rfl (by decide) i_Program (B.2.2.2.1 _ k_327) rfl (qR.2.1 _ 4 35 rfl) d_Machine_many_36 ?_
        refine mv_aload_n (pc := 39) B d_Machine_many_39 rfl 3 rfl ?_
        refine mv_getR (pc := 40) (ci := 9) (C := R_Machine) (T := F_Machine) (N := 13) B 0 rfl rfl (by decide) i_Machine (B.2.2.2.1 _ k_440) rfl qR.2.2 d_Machine_many_40 ?_
        refine mv_getI (pc := 43) (ci := 7) (C := R_Program) (T := F_Program) (N := 19) B 8 rfl rfl (by decide) i_Program (B.2.2.2.1 _ k_338) rfl d_Machine_many_43 ?_
        refine mv_iald (pc := 46) B rfl (i32_in b3 (by omega)) d_Machine_many_46 ?_
        refine mv_lald (pc := 47) B rfl (i32_in (by omega) (by omega)) d_Machine_many_47 ?_
        refine mv_lstore (pc := 48) B d_Machine_many_48 (by decide) rfl ?_
        rw [← eix]
        clear eix
        refine mv_lload (pc := 50) B d_Machine_many_50 0 rfl ?_
        refine mv_lconst (pc := 52) (v := 0) B d_Machine_many_52 (by decide) ?_
        refine mv_lcmp (pc := 53) B d_Machine_many_53 ?_
        refine mv_if_lt (pc := 54) (tgt := 75) B d_Machine_many_54 rfl (fun h54 => ?_) (fun h54 => ?_)
        · skip
          refine mv_aload_n (pc := 75) B d_Machine_many_75 rfl 4 rfl ?_
          refine mv_iconst (pc := 76) (v := -1) B d_Machine_many_76 (by decide) ?_
          refine mv_putI (pc := 77) (ci := 9) (C := R_Machine) (T := F_Machine) (N := 13) B 9 rfl rfl (by decide) i_Machine t_Machine_ok n_Machine (B.2.2.2.1 _ k_451) rfl rfl rfl rfl d_Machine_many_77 ?_
          refine mv_aload_n (pc := 80) B d_Machine_many_80 rfl 4 rfl ?_
          refine mv_dup (pc := 81) B d_Machine_many_81 rfl ?_
          refine mv_getI (pc := 82) (ci := 9) (C := R_Machine) (T := F_Machine) (N := 13) B 11 rfl rfl (by decide) i_Machine (B.2.2.2.1 _ k_455) rfl d_Machine_many_82 ?_
          refine mv_iconst (pc := 85) (v := 1) B d_Machine_many_85 (by decide) ?_
          refine mv_iadd (pc := 86) B d_Machine_many_86 ?_
          refine mv_putI (pc := 87) (ci := 9) (C := R_Machine) (T := F_Machine) (N := 13) B 11 rfl rfl (by decide) i_Machine t_Machine_ok n_Machine (B.2.2.2.1 _ k_455) rfl rfl rfl rfl d_Machine_many_87 ?_
          refine mv_goto (pc := 90) (tgt := 115) B d_Machine_many_90 rfl ?_
          refine mv_lpick [1, 2, 3, 4, 5] rfl ?_
          first | exact j115 _ _ w2 (by omega) (by omega) (by rw [h112.2.2.2.2]; exact qR) (qF.tr h112) | exact j115 _ _ w2 (by omega) (by omega) qR ((qF.si rfl).si rfl)
        · skip
          have k54 := mt (lg_cmp_lt _ _).mpr h54
          rw [Int64.lt_iff_toInt_lt] at k54
          simp only [Int64.reduceToInt] at k54
          refine mv_lload (pc := 57) B d_Machine_many_57 0 rfl ?_
          refine mv_aload_n (pc := 59) B d_Machine_many_59 rfl 4 rfl ?_
          refine mv_getR (pc := 60) (ci := 9) (C := R_Machine) (T := F_Machine) (N := 13) B 0 rfl rfl (by decide) i_Machine (B.2.2.2.1 _ k_440) rfl qR.2.2 d_Machine_many_60 ?_
          refine mv_getR (pc := 63) (ci := 7) (C := R_Program) (T := F_Program) (N := 19) B 3 rfl rfl (by decide) i_Program (B.2.2.2.1 _ k_324) rfl (qR.2.1 _ 3 34 rfl) d_Machine_many_63 ?_
          refine mv_iload_n (pc := 66) B d_Machine_many_66 rfl 2 rfl ?_
          refine mv_iald (pc := 67) B rfl (i32_in (by omega) (by omega)) d_Machine_many_67 ?_
          refine mv_iload_n (pc := 68) B d_Machine_many_68 rfl 3 rfl ?_
          refine mv_isub (pc := 69) B d_Machine_many_69 ?_
          refine mv_topi (fun y69 ey69 => ?_)
          have fy69 := i32_subE ey69 (by (try simp only [Int32.reduceToInt]); omega) (by (try simp only [Int32.reduceToInt]); omega)
          try simp only [Int32.reduceToInt] at fy69
          refine mv_i2l (pc := 70) B d_Machine_many_70 ?_
          refine mv_lcmp (pc := 71) B d_Machine_many_71 ?_
          refine mv_if_le (pc := 72) (tgt := 93) B d_Machine_many_72 rfl (fun h72 => ?_) (fun h72 => ?_)
          · skip
            have k72 := (lg_cmp_le _ _).mp h72
            rw [Int64.le_iff_toInt_le, lg_toInt] at k72
            rw [fy69] at k72
            have k73 := l2i_nn (x := ix) (by omega) (by omega)
            refine mv_aload_n (pc := 93) B d_Machine_many_93 rfl 4 rfl ?_
            refine mv_aload_n (pc := 94) B d_Machine_many_94 rfl 4 rfl ?_
            refine mv_aload_n (pc := 95) B d_Machine_many_95 rfl 4 rfl ?_
            refine mv_getR (pc := 96) (ci := 9) (C := R_Machine) (T := F_Machine) (N := 13) B 0 rfl rfl (by decide) i_Machine (B.2.2.2.1 _ k_440) rfl qR.2.2 d_Machine_many_96 ?_
            refine mv_getR (pc := 99) (ci := 7) (C := R_Program) (T := F_Program) (N := 19) B 4 rfl rfl (by decide) i_Program (B.2.2.2.1 _ k_327) rfl (qR.2.1 _ 4 35 rfl) d_Machine_many_99 ?_
            refine mv_iload_n (pc := 102) B d_Machine_many_102 rfl 2 rfl ?_
            refine mv_iald (pc := 103) B rfl (i32_in (by omega) (by omega)) d_Machine_many_103 ?_
            refine mv_lload (pc := 104) B d_Machine_many_104 0 rfl ?_
            refine mv_l2i (pc := 106) B d_Machine_many_106 ?_
            refine mv_iadd (pc := 107) B d_Machine_many_107 ?_
            refine mv_topi (fun y107 ey107 => ?_)
            have fy107 := i32_addE ey107 (by (try simp only [Int32.reduceToInt]); omega) (by (try simp only [Int32.reduceToInt]); omega)
            try simp only [Int32.reduceToInt] at fy107
            refine mv_iload_n (pc := 108) B d_Machine_many_108 rfl 3 rfl ?_
            refine mv_callVl (pc := 109) (n := 2) (ci := 9) (C := R_Machine) B (mK_ok sk sv) hNs rfl rfl (c_Machine_wordAt_a l hi _ _ _ qR (by omega) (by omega) (by omega)) rfl (ma_goodc kc_Machine_wordAt) (B.2.2.2.1 _ k_1797) (B.2.2.2.1 _ k_1799) (B.2.2.2.1 _ ks_78) (B.2.2.2.1 _ k_11) ⟨by decide +kernel, by decide +kernel, by decide +kernel⟩ rfl d_Machine_many_109 rfl (Nat.le_of_ble_eq_true rfl) ⟨by decide, by decide⟩ ⟨by decide, by decide⟩ ⟨by decide, by decide⟩ (mv_noH hno _) (fun v109 σ109 h109 => ?_)
            have h109 := h109.symm
            subst h109
            refine mv_callVv (pc := 112) (n := 1) (ci := 9) (C := R_Machine) B (mK_ok sk sv) hNs rfl rfl (c_Machine_oneWith_a l hi _ _ qR th sl qP) rfl (ma_goodc kc_Machine_oneWith) (B.2.2.2.1 _ k_1801) (B.2.2.2.1 _ k_1573) (B.2.2.2.1 _ k_1574) (B.2.2.2.1 _ k_11) ⟨by decide +kernel, by decide +kernel, by decide +kernel⟩ rfl d_Machine_many_112 rfl (Nat.le_of_ble_eq_true rfl) ⟨by decide, by decide⟩ ⟨by decide, by decide⟩ ⟨by decide, by decide⟩ (mv_noH hno _) (fun σ112 h112 => ?_)
            refine mv_lpick [1, 2, 3, 4, 5] rfl ?_
            first | exact j115 _ _ w2 (by omega) (by omega) (by rw [h112.2.2.2.2]; exact qR) (qF.tr h112) | exact j115 _ _ w2 (by omega) (by omega) qR ((qF.si rfl).si rfl)
          · skip
            refine mv_aload_n (pc := 75) B d_Machine_many_75 rfl 4 rfl ?_
            refine mv_iconst (pc := 76) (v := -1) B d_Machine_many_76 (by decide) ?_
            refine mv_putI (pc := 77) (ci := 9) (C := R_Machine) (T := F_Machine) (N := 13) B 9 rfl rfl (by decide) i_Machine t_Machine_ok n_Machine (B.2.2.2.1 _ k_451) rfl rfl rfl rfl d_Machine_many_77 ?_
            refine mv_aload_n (pc := 80) B d_Machine_many_80 rfl 4 rfl ?_
            refine mv_dup (pc := 81) B d_Machine_many_81 rfl ?_
            refine mv_getI (pc := 82) (ci := 9) (C := R_Machine) (T := F_Machine) (N := 13) B 11 rfl rfl (by decide) i_Machine (B.2.2.2.1 _ k_455) rfl d_Machine_many_82 ?_
            refine mv_iconst (pc := 85) (v := 1) B d_Machine_many_85 (by decide) ?_
            refine mv_iadd (pc := 86) B d_Machine_many_86 ?_
            refine mv_putI (pc := 87) (ci := 9) (C := R_Machine) (T := F_Machine) (N := 13) B 11 rfl rfl (by decide) i_Machine t_Machine_ok n_Machine (B.2.2.2.1 _ k_455) rfl rfl rfl rfl d_Machine_many_87 ?_
            refine mv_goto (pc := 90) (tgt := 115) B d_Machine_many_90 rfl ?_
            refine mv_lpick [1, 2, 3, 4, 5] rfl ?_
            first | exact j115 _ _ w2 (by omega) (by omega) (by rw [h112.2.2.2.2]; exact qR) (qF.tr h112) | exact j115 _ _ w2 (by omega) (by omega) qR ((qF.si rfl).si rfl)
  refine mv_aload_n (pc := 0) B d_Machine_many_0 rfl 0 rfl ?_
  refine mv_getR (pc := 1) (ci := 9) (C := R_Machine) (T := F_Machine) (N := 13) B 0 rfl rfl (by decide) i_Machine (B.2.2.2.1 _ k_440) rfl hR.2.2 d_Machine_many_1 ?_
  refine mv_getI (pc := 4) (ci := 7) (C := R_Program) (T := F_Program) (N := 19) B 0 rfl rfl (by decide) i_Program (B.2.2.2.1 _ k_312) rfl d_Machine_many_4 ?_
  refine mv_bipush (pc := 7) (v := 8) B d_Machine_many_7 (by decide) ?_
  refine mv_idiv (pc := 9) B d_Machine_many_9 (by decide) ?_
  refine mv_istore_n (pc := 10) B d_Machine_many_10 rfl (by decide) rfl ?_
  refine mv_aload_n (pc := 11) B d_Machine_many_11 rfl 1 rfl ?_
  refine mv_getR (pc := 12) (ci := 9) (C := R_Machine) (T := F_Machine) (N := 13) B 0 rfl rfl (by decide) i_Machine (B.2.2.2.1 _ k_440) rfl hR.2.2 d_Machine_many_12 ?_
  refine mv_getI (pc := 15) (ci := 7) (C := R_Program) (T := F_Program) (N := 19) B 9 rfl rfl (by decide) i_Program (B.2.2.2.1 _ k_341) rfl d_Machine_many_15 ?_
  refine mv_istore_n (pc := 18) B d_Machine_many_18 rfl (by decide) rfl ?_
  refine mv_iconst (pc := 19) (v := 0) B d_Machine_many_19 (by decide) ?_
  refine mv_istore (pc := 20) B d_Machine_many_20 (by decide) rfl ?_
  refine mv_lpick [0, 1, 2, 3, 4] rfl ?_
  exact lp _ _ _ (by decide) (by decide) hR FM0 (Nat.lt_succ_self _)
set_option maxHeartbeats 4000000 in
set_option maxRecDepth 100000 in
theorem c_Machine_many_b (l : Launch) {dA : FieldType → ClassId} {D : va_G} {al : Nat → Nat} {ext : mv_Sh} {sk sv : Nat → Nat} (hi : mv_inj (mg dA D al ext)) (σ : mv_H) (n9 : Int32) (hR : Rf 48 (mv_r σ)) (th sl : Nat) (hP9 : ProgOK 48 32768 512 σ th sl) (hn : n9.toInt ≤ 500) (hf : 0 ≤ (mv_i σ 48 9).toInt) : mv_C l y_Machine_many (Cond.code y_Machine_many b_Machine_many 7 (Option.some Jvm.ClassFile.FieldType.int) :: ma) ({ frames := 6, cells := 0, slots := 0, locals := 152 }) (mg dA D al ext) (mK sk sv) [.ref (al 64), .int n9] σ (mv_Ri (fun _ σ1 => FM σ σ1)) := by
  refine mv_C.ofV (cc := b_Machine_many) (nL := 7) (ret := (Option.some Jvm.ClassFile.FieldType.int)) (by decide +kernel) rfl hi (Nat.le_of_ble_eq_true rfl) ?_
  intro p e s m below meth c B hNs hr hnm hno
  have hP : PP 48 := by unfold PP; omega
  have hT := hP9.1
  have hln := len8 hT.2.2.2.2.1 hT.2.2.2.2.2.1
  have ht9 := hT.2.2.2.2.2.2.2.resolve_left (fun q => by omega)
  have hr9 := i32_cl (x := mv_i σ 48 9) hf
  have hr8 := i32_cl (x := mv_i σ 48 8) ht9.1
  obtain ⟨c9, f9, hc9, hf9, hs1, hs2⟩ := hT.2.2.2.2.2.2.1 (mv_i σ 48 9).toNatClampNeg (by omega)
  obtain ⟨c8, f8, hc8, hf8, hs3, hs4⟩ := hT.2.2.2.2.2.2.1 (mv_i σ 48 8).toNatClampNeg (by omega)
  have hsl := hT.2.2.2.1
  have ht64 := hT.2.1
  have lp : ∀ (nn : Nat) (τ : mv_H) (jj : Int32) (q0 : 0 ≤ jj.toInt) (q1 : jj.toInt ≤ 500) (qR : Rf 48 (mv_r τ)) (qF : FM σ τ), (501 - jj.toInt).toNat < nn → mv_V p l e ({ frames := 6, cells := 0, slots := 0, locals := 152 }) s m ([.ref (al 64), .int n9] : List Value).toArray below meth c (mg dA D al ext) 7 0 0 (mv_Q (mg dA D al ext) below s 0 0 (mv_Ri (fun _ σ1 => FM σ σ1))) τ 22 [(4, .int jj), (3, .int (mv_i σ 48 9)), (2, .int (mv_i σ 48 0 / 8)), (0, .ref (al 64)), (1, .int n9)] [] := by
    intro nn
    induction nn with
    | zero => intro τ jj q0 q1 qR qF hm; exact absurd hm (Nat.not_lt_zero _)
    | succ nn ih =>
      intro τ jj q0 q1 qR qF hm
      have j115 : ∀ (τ2 : mv_H) (jj : Int32) (w2 : (jj + 1).toInt = jj.toInt + 1) (q0 : 0 ≤ jj.toInt) (qm : (501 - (jj + 1).toInt).toNat < nn ∧ (jj + 1).toInt ≤ 500) (gR : Rf 48 (mv_r τ2)) (gF : FM σ τ2), mv_V p l e ({ frames := 6, cells := 0, slots := 0, locals := 152 }) s m ([.ref (al 64), .int n9] : List Value).toArray below meth c (mg dA D al ext) 7 0 0 (mv_Q (mg dA D al ext) below s 0 0 (mv_Ri (fun _ σ1 => FM σ σ1))) τ2 115 [(4, .int jj), (3, .int (mv_i σ 48 9)), (2, .int (mv_i σ 48 0 / 8)), (0, .ref (al 64)), (1, .int n9)] [] := by
        intro τ2 jj w2 q0 qm gR gF
        refine mv_aload_n (pc := 115) B d_Machine_many_115 rfl 3 rfl ?_
        refine mv_getI (pc := 116) (ci := 9) (C := R_Machine) (T := F_Machine) (N := 13) B 9 rfl rfl (by decide) i_Machine (B.2.2.2.1 _ k_451) rfl d_Machine_many_116 ?_
        refine mv_if_eq (pc := 119) (tgt := 125) B d_Machine_many_119 rfl (fun h119 => ?_) (fun h119 => ?_)
        · skip
          have go := ih τ2 (jj + 1) (by omega) (by omega) gR gF (by omega)
          refine mv_iinc (pc := 125) (j := 0) (v := 1) B d_Machine_many_125 rfl (by decide) (by decide) rfl ?_
          refine mv_goto (pc := 128) (tgt := 22) B d_Machine_many_128 rfl ?_
          refine mv_lpick [0, 1, 2, 3, 4] rfl ?_
          exact go
        · skip
          refine mv_iload (pc := 122) B d_Machine_many_122 0 rfl ?_
          exact mv_iret (pc := 124) B hr rfl d_Machine_many_124 (Nat.le_refl _) (Nat.le_refl _) ⟨_, rfl, gF⟩
      have e8 : mv_i τ 48 = mv_i σ 48 := funext fun _ => qF.i hP
      have e2 : mv_a τ 50 = mv_a σ 50 := qF.a (P := 48) (j := 2) hP (by omega)
      have e3 : mv_a τ 51 = mv_a σ 51 := qF.a (P := 48) (j := 3) hP (by omega)
      have b0 : (mv_a τ 50 (mv_i σ 48 9).toNatClampNeg).toInt = c9 := by rw [e2]; exact hc9
      have b1 : (mv_a τ 51 (mv_i σ 48 9).toNatClampNeg).toInt = f9 := by rw [e3]; exact hf9
      have b2 : (mv_a τ 51 (mv_i τ 48 8).toNatClampNeg).toInt = f8 := by rw [e3, e8]; exact hf8
      have b3 : 0 ≤ (mv_i τ 48 8).toInt := by rw [e8]; exact ht9.1
      have b4 : (mv_i τ 48 8).toInt < th := by rw [e8]; exact ht9.2.1
      have qP := hP9.fm qF hP
      refine mv_iload (pc := 22) B d_Machine_many_22 0 rfl ?_
      refine mv_iload_n (pc := 24) B d_Machine_many_24 rfl 4 rfl ?_
      refine mv_icmp_ge (pc := 25) (tgt := 131) B d_Machine_many_25 rfl (fun h25 => ?_) (fun h25 => ?_)
      · skip
        refine mv_iload_n (pc := 131) B d_Machine_many_131 rfl 4 rfl ?_
        exact mv_iret (pc := 132) B hr rfl d_Machine_many_132 (Nat.le_refl _) (Nat.le_refl _) ⟨_, rfl, qF⟩
      · skip
        rw [Int32.le_iff_toInt_le] at h25
        have hmx := i32_rng n9
        have w2 : (jj + 1).toInt = jj.toInt + 1 := i32_inc (by omega)
        obtain ⟨ix, eix⟩ : ∃ x, x = mv_b τ 65 (mv_a τ 51 (mv_i τ 48 8).toNatClampNeg).toNatClampNeg := ⟨_, rfl⟩
        refine mv_aload_n (pc := 28) B d_Machine_many_28 rfl 3 rfl ?_
        refine mv_getR (pc := 29) (ci := 9) (C := R_Machine) (T := F_Machine) (N := 13) B 1 rfl rfl (by decide) i_Machine (B.2.2.2.1 _ k_442) rfl (qR.1 _ 1 _ rfl) d_Machine_many_29 ?_
        refine mv_aload_n (pc := 32) B d_Machine_many_32 rfl 3 rfl ?_
        refine mv_getR (pc := 33) (ci := 9) (C := R_Machine) (T := F_Machine) (N := 13) B 0 rfl rfl (by decide) i_Machine (B.2.2.2.1 _ k_440) rfl qR.2.2 d_Machine_many_33 ?_
        refine mv_getR (pc := 36) (ci := 7) (C := R_Program) (T := F_Program) (N := 19) B 4 rfl rfl (by decide) i_Program (B.2.2.2.1 _ k_327) rfl (qR.2.1 _ 4 51 rfl) d_Machine_many_36 ?_
        refine mv_aload_n (pc := 39) B d_Machine_many_39 rfl 3 rfl ?_
        refine mv_getR (pc := 40) (ci := 9) (C := R_Machine) (T := F_Machine) (N := 13) B 0 rfl rfl (by decide) i_Machine (B.2.2.2.1 _ k_440) rfl qR.2.2 d_Machine_many_40 ?_
        refine mv_getI (pc := 43) (ci := 7) (C := R_Program) (T := F_Program) (N := 19) B 8 rfl rfl (by decide) i_Program (B.2.2.2.1 _ k_338) rfl d_Machine_many_43 ?_
        refine mv_iald (pc := 46) B rfl (i32_in b3 (by omega)) d_Machine_many_46 ?_
        refine mv_lald (pc := 47) B rfl (i32_in (by omega) (by omega)) d_Machine_many_47 ?_
        refine mv_lstore (pc := 48) B d_Machine_many_48 (by decide) rfl ?_
        rw [← eix]
        clear eix
        refine mv_lload (pc := 50) B d_Machine_many_50 0 rfl ?_
        refine mv_lconst (pc := 52) (v := 0) B d_Machine_many_52 (by decide) ?_
        refine mv_lcmp (pc := 53) B d_Machine_many_53 ?_
        refine mv_if_lt (pc := 54) (tgt := 75) B d_Machine_many_54 rfl (fun h54 => ?_) (fun h54 => ?_)
        · skip
          refine mv_aload_n (pc := 75) B d_Machine_many_75 rfl 4 rfl ?_
          refine mv_iconst (pc := 76) (v := -1) B d_Machine_many_76 (by decide) ?_
          refine mv_putI (pc := 77) (ci := 9) (C := R_Machine) (T := F_Machine) (N := 13) B 9 rfl rfl (by decide) i_Machine t_Machine_ok n_Machine (B.2.2.2.1 _ k_451) rfl rfl rfl rfl d_Machine_many_77 ?_
          refine mv_aload_n (pc := 80) B d_Machine_many_80 rfl 4 rfl ?_
          refine mv_dup (pc := 81) B d_Machine_many_81 rfl ?_
          refine mv_getI (pc := 82) (ci := 9) (C := R_Machine) (T := F_Machine) (N := 13) B 11 rfl rfl (by decide) i_Machine (B.2.2.2.1 _ k_455) rfl d_Machine_many_82 ?_
          refine mv_iconst (pc := 85) (v := 1) B d_Machine_many_85 (by decide) ?_
          refine mv_iadd (pc := 86) B d_Machine_many_86 ?_
          refine mv_putI (pc := 87) (ci := 9) (C := R_Machine) (T := F_Machine) (N := 13) B 11 rfl rfl (by decide) i_Machine t_Machine_ok n_Machine (B.2.2.2.1 _ k_455) rfl rfl rfl rfl d_Machine_many_87 ?_
          refine mv_goto (pc := 90) (tgt := 115) B d_Machine_many_90 rfl ?_
          refine mv_lpick [1, 2, 3, 4, 5] rfl ?_
          first | exact j115 _ _ w2 (by omega) (by omega) (by rw [h112.2.2.2.2]; exact qR) (qF.tr h112) | exact j115 _ _ w2 (by omega) (by omega) qR ((qF.si rfl).si rfl)
        · skip
          have k54 := mt (lg_cmp_lt _ _).mpr h54
          rw [Int64.lt_iff_toInt_lt] at k54
          simp only [Int64.reduceToInt] at k54
          refine mv_lload (pc := 57) B d_Machine_many_57 0 rfl ?_
          refine mv_aload_n (pc := 59) B d_Machine_many_59 rfl 4 rfl ?_
          refine mv_getR (pc := 60) (ci := 9) (C := R_Machine) (T := F_Machine) (N := 13) B 0 rfl rfl (by decide) i_Machine (B.2.2.2.1 _ k_440) rfl qR.2.2 d_Machine_many_60 ?_
          refine mv_getR (pc := 63) (ci := 7) (C := R_Program) (T := F_Program) (N := 19) B 3 rfl rfl (by decide) i_Program (B.2.2.2.1 _ k_324) rfl (qR.2.1 _ 3 50 rfl) d_Machine_many_63 ?_
          refine mv_iload_n (pc := 66) B d_Machine_many_66 rfl 2 rfl ?_
          refine mv_iald (pc := 67) B rfl (i32_in (by omega) (by omega)) d_Machine_many_67 ?_
          refine mv_iload_n (pc := 68) B d_Machine_many_68 rfl 3 rfl ?_
          refine mv_isub (pc := 69) B d_Machine_many_69 ?_
          refine mv_topi (fun y69 ey69 => ?_)
          have fy69 := i32_subE ey69 (by (try simp only [Int32.reduceToInt]); omega) (by (try simp only [Int32.reduceToInt]); omega)
          try simp only [Int32.reduceToInt] at fy69
          refine mv_i2l (pc := 70) B d_Machine_many_70 ?_
          refine mv_lcmp (pc := 71) B d_Machine_many_71 ?_
          refine mv_if_le (pc := 72) (tgt := 93) B d_Machine_many_72 rfl (fun h72 => ?_) (fun h72 => ?_)
          · skip
            have k72 := (lg_cmp_le _ _).mp h72
            rw [Int64.le_iff_toInt_le, lg_toInt] at k72
            rw [fy69] at k72
            have k73 := l2i_nn (x := ix) (by omega) (by omega)
            refine mv_aload_n (pc := 93) B d_Machine_many_93 rfl 4 rfl ?_
            refine mv_aload_n (pc := 94) B d_Machine_many_94 rfl 4 rfl ?_
            refine mv_aload_n (pc := 95) B d_Machine_many_95 rfl 4 rfl ?_
            refine mv_getR (pc := 96) (ci := 9) (C := R_Machine) (T := F_Machine) (N := 13) B 0 rfl rfl (by decide) i_Machine (B.2.2.2.1 _ k_440) rfl qR.2.2 d_Machine_many_96 ?_
            refine mv_getR (pc := 99) (ci := 7) (C := R_Program) (T := F_Program) (N := 19) B 4 rfl rfl (by decide) i_Program (B.2.2.2.1 _ k_327) rfl (qR.2.1 _ 4 51 rfl) d_Machine_many_99 ?_
            refine mv_iload_n (pc := 102) B d_Machine_many_102 rfl 2 rfl ?_
            refine mv_iald (pc := 103) B rfl (i32_in (by omega) (by omega)) d_Machine_many_103 ?_
            refine mv_lload (pc := 104) B d_Machine_many_104 0 rfl ?_
            refine mv_l2i (pc := 106) B d_Machine_many_106 ?_
            refine mv_iadd (pc := 107) B d_Machine_many_107 ?_
            refine mv_topi (fun y107 ey107 => ?_)
            have fy107 := i32_addE ey107 (by (try simp only [Int32.reduceToInt]); omega) (by (try simp only [Int32.reduceToInt]); omega)
            try simp only [Int32.reduceToInt] at fy107
            refine mv_iload_n (pc := 108) B d_Machine_many_108 rfl 3 rfl ?_
            refine mv_callVl (pc := 109) (n := 2) (ci := 9) (C := R_Machine) B (mK_ok sk sv) hNs rfl rfl (c_Machine_wordAt_b l hi _ _ _ qR (by omega) (by omega) (by omega)) rfl (ma_goodc kc_Machine_wordAt) (B.2.2.2.1 _ k_1797) (B.2.2.2.1 _ k_1799) (B.2.2.2.1 _ ks_78) (B.2.2.2.1 _ k_11) ⟨by decide +kernel, by decide +kernel, by decide +kernel⟩ rfl d_Machine_many_109 rfl (Nat.le_of_ble_eq_true rfl) ⟨by decide, by decide⟩ ⟨by decide, by decide⟩ ⟨by decide, by decide⟩ (mv_noH hno _) (fun v109 σ109 h109 => ?_)
            have h109 := h109.symm
            subst h109
            refine mv_callVv (pc := 112) (n := 1) (ci := 9) (C := R_Machine) B (mK_ok sk sv) hNs rfl rfl (c_Machine_oneWith_b l hi _ _ qR th sl qP) rfl (ma_goodc kc_Machine_oneWith) (B.2.2.2.1 _ k_1801) (B.2.2.2.1 _ k_1573) (B.2.2.2.1 _ k_1574) (B.2.2.2.1 _ k_11) ⟨by decide +kernel, by decide +kernel, by decide +kernel⟩ rfl d_Machine_many_112 rfl (Nat.le_of_ble_eq_true rfl) ⟨by decide, by decide⟩ ⟨by decide, by decide⟩ ⟨by decide, by decide⟩ (mv_noH hno _) (fun σ112 h112 => ?_)
            refine mv_lpick [1, 2, 3, 4, 5] rfl ?_
            first | exact j115 _ _ w2 (by omega) (by omega) (by rw [h112.2.2.2.2]; exact qR) (qF.tr h112) | exact j115 _ _ w2 (by omega) (by omega) qR ((qF.si rfl).si rfl)
          · skip
            refine mv_aload_n (pc := 75) B d_Machine_many_75 rfl 4 rfl ?_
            refine mv_iconst (pc := 76) (v := -1) B d_Machine_many_76 (by decide) ?_
            refine mv_putI (pc := 77) (ci := 9) (C := R_Machine) (T := F_Machine) (N := 13) B 9 rfl rfl (by decide) i_Machine t_Machine_ok n_Machine (B.2.2.2.1 _ k_451) rfl rfl rfl rfl d_Machine_many_77 ?_
            refine mv_aload_n (pc := 80) B d_Machine_many_80 rfl 4 rfl ?_
            refine mv_dup (pc := 81) B d_Machine_many_81 rfl ?_
            refine mv_getI (pc := 82) (ci := 9) (C := R_Machine) (T := F_Machine) (N := 13) B 11 rfl rfl (by decide) i_Machine (B.2.2.2.1 _ k_455) rfl d_Machine_many_82 ?_
            refine mv_iconst (pc := 85) (v := 1) B d_Machine_many_85 (by decide) ?_
            refine mv_iadd (pc := 86) B d_Machine_many_86 ?_
            refine mv_putI (pc := 87) (ci := 9) (C := R_Machine) (T := F_Machine) (N := 13) B 11 rfl rfl (by decide) i_Machine t_Machine_ok n_Machine (B.2.2.2.1 _ k_455) rfl rfl rfl rfl d_Machine_many_87 ?_
            refine mv_goto (pc := 90) (tgt := 115) B d_Machine_many_90 rfl ?_
            refine mv_lpick [1, 2, 3, 4, 5] rfl ?_
            first | exact j115 _ _ w2 (by omega) (by omega) (by rw [h112.2.2.2.2]; exact qR) (qF.tr h112) | exact j115 _ _ w2 (by omega) (by omega) qR ((qF.si rfl).si rfl)
  refine mv_aload_n (pc := 0) B d_Machine_many_0 rfl 0 rfl ?_
  refine mv_getR (pc := 1) (ci := 9) (C := R_Machine) (T := F_Machine) (N := 13) B 0 rfl rfl (by decide) i_Machine (B.2.2.2.1 _ k_440) rfl hR.2.2 d_Machine_many_1 ?_
  refine mv_getI (pc := 4) (ci := 7) (C := R_Program) (T := F_Program) (N := 19) B 0 rfl rfl (by decide) i_Program (B.2.2.2.1 _ k_312) rfl d_Machine_many_4 ?_
  refine mv_bipush (pc := 7) (v := 8) B d_Machine_many_7 (by decide) ?_
  refine mv_idiv (pc := 9) B d_Machine_many_9 (by decide) ?_
  refine mv_istore_n (pc := 10) B d_Machine_many_10 rfl (by decide) rfl ?_
  refine mv_aload_n (pc := 11) B d_Machine_many_11 rfl 1 rfl ?_
  refine mv_getR (pc := 12) (ci := 9) (C := R_Machine) (T := F_Machine) (N := 13) B 0 rfl rfl (by decide) i_Machine (B.2.2.2.1 _ k_440) rfl hR.2.2 d_Machine_many_12 ?_
  refine mv_getI (pc := 15) (ci := 7) (C := R_Program) (T := F_Program) (N := 19) B 9 rfl rfl (by decide) i_Program (B.2.2.2.1 _ k_341) rfl d_Machine_many_15 ?_
  refine mv_istore_n (pc := 18) B d_Machine_many_18 rfl (by decide) rfl ?_
  refine mv_iconst (pc := 19) (v := 0) B d_Machine_many_19 (by decide) ?_
  refine mv_istore (pc := 20) B d_Machine_many_20 (by decide) rfl ?_
  refine mv_lpick [0, 1, 2, 3, 4] rfl ?_
  exact lp _ _ _ (by decide) (by decide) hR FM0 (Nat.lt_succ_self _)
set_option maxHeartbeats 4000000 in
set_option maxRecDepth 100000 in
theorem c_Machine_many_c (l : Launch) {dA : FieldType → ClassId} {D : va_G} {al : Nat → Nat} {sk sv : Nat → Nat} (hi : mv_inj (mg dA D al me)) (σ : mv_H) (n9 : Int32) (hR : Rf 145 (mv_r σ)) (th sl : Nat) (hP9 : ProgOK 145 8192 48 σ th sl) (hn : n9.toInt ≤ 500) (hf : 0 ≤ (mv_i σ 145 9).toInt) : mv_C l y_Machine_many (Cond.code y_Machine_many b_Machine_many 7 (Option.some Jvm.ClassFile.FieldType.int) :: ma) ({ frames := 6, cells := 0, slots := 0, locals := 152 }) (mg dA D al me) (mK sk sv) [.ref (al 64), .int n9] σ (mv_Ri (fun _ σ1 => FM σ σ1)) := by
  refine mv_C.ofV (cc := b_Machine_many) (nL := 7) (ret := (Option.some Jvm.ClassFile.FieldType.int)) (by decide +kernel) rfl hi (Nat.le_of_ble_eq_true rfl) ?_
  intro p e s m below meth c B hNs hr hnm hno
  have hP : PP 145 := by unfold PP; omega
  have hT := hP9.1
  have hln := len8 hT.2.2.2.2.1 hT.2.2.2.2.2.1
  have ht9 := hT.2.2.2.2.2.2.2.resolve_left (fun q => by omega)
  have hr9 := i32_cl (x := mv_i σ 145 9) hf
  have hr8 := i32_cl (x := mv_i σ 145 8) ht9.1
  obtain ⟨c9, f9, hc9, hf9, hs1, hs2⟩ := hT.2.2.2.2.2.2.1 (mv_i σ 145 9).toNatClampNeg (by omega)
  obtain ⟨c8, f8, hc8, hf8, hs3, hs4⟩ := hT.2.2.2.2.2.2.1 (mv_i σ 145 8).toNatClampNeg (by omega)
  have hsl := hT.2.2.2.1
  have ht64 := hT.2.1
  have lp : ∀ (nn : Nat) (τ : mv_H) (jj : Int32) (q0 : 0 ≤ jj.toInt) (q1 : jj.toInt ≤ 500) (qR : Rf 145 (mv_r τ)) (qF : FM σ τ), (501 - jj.toInt).toNat < nn → mv_V p l e ({ frames := 6, cells := 0, slots := 0, locals := 152 }) s m ([.ref (al 64), .int n9] : List Value).toArray below meth c (mg dA D al me) 7 0 0 (mv_Q (mg dA D al me) below s 0 0 (mv_Ri (fun _ σ1 => FM σ σ1))) τ 22 [(4, .int jj), (3, .int (mv_i σ 145 9)), (2, .int (mv_i σ 145 0 / 8)), (0, .ref (al 64)), (1, .int n9)] [] := by
    intro nn
    induction nn with
    | zero => intro τ jj q0 q1 qR qF hm; exact absurd hm (Nat.not_lt_zero _)
    | succ nn ih =>
      intro τ jj q0 q1 qR qF hm
      have j115 : ∀ (τ2 : mv_H) (jj : Int32) (w2 : (jj + 1).toInt = jj.toInt + 1) (q0 : 0 ≤ jj.toInt) (qm : (501 - (jj + 1).toInt).toNat < nn ∧ (jj + 1).toInt ≤ 500) (gR : Rf 145 (mv_r τ2)) (gF : FM σ τ2), mv_V p l e ({ frames := 6, cells := 0, slots := 0, locals := 152 }) s m ([.ref (al 64), .int n9] : List Value).toArray below meth c (mg dA D al me) 7 0 0 (mv_Q (mg dA D al me) below s 0 0 (mv_Ri (fun _ σ1 => FM σ σ1))) τ2 115 [(4, .int jj), (3, .int (mv_i σ 145 9)), (2, .int (mv_i σ 145 0 / 8)), (0, .ref (al 64)), (1, .int n9)] [] := by
        intro τ2 jj w2 q0 qm gR gF
        refine mv_aload_n (pc := 115) B d_Machine_many_115 rfl 3 rfl ?_
        refine mv_getI (pc := 116) (ci := 9) (C := R_Machine) (T := F_Machine) (N := 13) B 9 rfl rfl (by decide) i_Machine (B.2.2.2.1 _ k_451) rfl d_Machine_many_116 ?_
        refine mv_if_eq (pc := 119) (tgt := 125) B d_Machine_many_119 rfl (fun h119 => ?_) (fun h119 => ?_)
        · skip
          have go := ih τ2 (jj + 1) (by omega) (by omega) gR gF (by omega)
          refine mv_iinc (pc := 125) (j := 0) (v := 1) B d_Machine_many_125 rfl (by decide) (by decide) rfl ?_
          refine mv_goto (pc := 128) (tgt := 22) B d_Machine_many_128 rfl ?_
          refine mv_lpick [0, 1, 2, 3, 4] rfl ?_
          exact go
        · skip
          refine mv_iload (pc := 122) B d_Machine_many_122 0 rfl ?_
          exact mv_iret (pc := 124) B hr rfl d_Machine_many_124 (Nat.le_refl _) (Nat.le_refl _) ⟨_, rfl, gF⟩
      have e8 : mv_i τ 145 = mv_i σ 145 := funext fun _ => qF.i hP
      have e2 : mv_a τ 147 = mv_a σ 147 := qF.a (P := 145) (j := 2) hP (by omega)
      have e3 : mv_a τ 148 = mv_a σ 148 := qF.a (P := 145) (j := 3) hP (by omega)
      have b0 : (mv_a τ 147 (mv_i σ 145 9).toNatClampNeg).toInt = c9 := by rw [e2]; exact hc9
      have b1 : (mv_a τ 148 (mv_i σ 145 9).toNatClampNeg).toInt = f9 := by rw [e3]; exact hf9
      have b2 : (mv_a τ 148 (mv_i τ 145 8).toNatClampNeg).toInt = f8 := by rw [e3, e8]; exact hf8
      have b3 : 0 ≤ (mv_i τ 145 8).toInt := by rw [e8]; exact ht9.1
      have b4 : (mv_i τ 145 8).toInt < th := by rw [e8]; exact ht9.2.1
      have qP := hP9.fm qF hP
      refine mv_iload (pc := 22) B d_Machine_many_22 0 rfl ?_
      refine mv_iload_n (pc := 24) B d_Machine_many_24 rfl 4 rfl ?_
      refine mv_icmp_ge (pc := 25) (tgt := 131) B d_Machine_many_25 rfl (fun h25 => ?_) (fun h25 => ?_)
      · skip
        refine mv_iload_n (pc := 131) B d_Machine_many_131 rfl 4 rfl ?_
        exact mv_iret (pc := 132) B hr rfl d_Machine_many_132 (Nat.le_refl _) (Nat.le_refl _) ⟨_, rfl, qF⟩
      · skip
        rw [Int32.le_iff_toInt_le] at h25
        have hmx := i32_rng n9
        have w2 : (jj + 1).toInt = jj.toInt + 1 := i32_inc (by omega)
        obtain ⟨ix, eix⟩ : ∃ x, x = mv_b τ 65 (mv_a τ 148 (mv_i τ 145 8).toNatClampNeg).toNatClampNeg := ⟨_, rfl⟩
        refine mv_aload_n (pc := 28) B d_Machine_many_28 rfl 3 rfl ?_
        refine mv_getR (pc := 29) (ci := 9) (C := R_Machine) (T := F_Machine) (N := 13) B 1 rfl rfl (by decide) i_Machine (B.2.2.2.1 _ k_442) rfl (qR.1 _ 1 _ rfl) d_Machine_many_29 ?_
        refine mv_aload_n (pc := 32) B d_Machine_many_32 rfl 3 rfl ?_
        refine mv_getR (pc := 33) (ci := 9) (C := R_Machine) (T := F_Machine) (N := 13) B 0 rfl rfl (by decide) i_Machine (B.2.2.2.1 _ k_440) rfl qR.2.2 d_Machine_many_33 ?_
        refine mv_getR (pc := 36) (ci := 7) (C := R_Program) (T := F_Program) (N := 19) B 4 rfl rfl (by decide) i_Program (B.2.2.2.1 _ k_327) rfl (qR.2.1 _ 4 148 rfl) d_Machine_many_36 ?_
        refine mv_aload_n (pc := 39) B d_Machine_many_39 rfl 3 rfl ?_
        refine mv_getR (pc := 40) (ci := 9) (C := R_Machine) (T := F_Machine) (N := 13) B 0 rfl rfl (by decide) i_Machine (B.2.2.2.1 _ k_440) rfl qR.2.2 d_Machine_many_40 ?_
        refine mv_getI (pc := 43) (ci := 7) (C := R_Program) (T := F_Program) (N := 19) B 8 rfl rfl (by decide) i_Program (B.2.2.2.1 _ k_338) rfl d_Machine_many_43 ?_
        refine mv_iald (pc := 46) B rfl (i32_in b3 (by omega)) d_Machine_many_46 ?_
        refine mv_lald (pc := 47) B rfl (i32_in (by omega) (by omega)) d_Machine_many_47 ?_
        refine mv_lstore (pc := 48) B d_Machine_many_48 (by decide) rfl ?_
        rw [← eix]
        clear eix
        refine mv_lload (pc := 50) B d_Machine_many_50 0 rfl ?_
        refine mv_lconst (pc := 52) (v := 0) B d_Machine_many_52 (by decide) ?_
        refine mv_lcmp (pc := 53) B d_Machine_many_53 ?_
        refine mv_if_lt (pc := 54) (tgt := 75) B d_Machine_many_54 rfl (fun h54 => ?_) (fun h54 => ?_)
        · skip
          refine mv_aload_n (pc := 75) B d_Machine_many_75 rfl 4 rfl ?_
          refine mv_iconst (pc := 76) (v := -1) B d_Machine_many_76 (by decide) ?_
          refine mv_putI (pc := 77) (ci := 9) (C := R_Machine) (T := F_Machine) (N := 13) B 9 rfl rfl (by decide) i_Machine t_Machine_ok n_Machine (B.2.2.2.1 _ k_451) rfl rfl rfl rfl d_Machine_many_77 ?_
          refine mv_aload_n (pc := 80) B d_Machine_many_80 rfl 4 rfl ?_
          refine mv_dup (pc := 81) B d_Machine_many_81 rfl ?_
          refine mv_getI (pc := 82) (ci := 9) (C := R_Machine) (T := F_Machine) (N := 13) B 11 rfl rfl (by decide) i_Machine (B.2.2.2.1 _ k_455) rfl d_Machine_many_82 ?_
          refine mv_iconst (pc := 85) (v := 1) B d_Machine_many_85 (by decide) ?_
          refine mv_iadd (pc := 86) B d_Machine_many_86 ?_
          refine mv_putI (pc := 87) (ci := 9) (C := R_Machine) (T := F_Machine) (N := 13) B 11 rfl rfl (by decide) i_Machine t_Machine_ok n_Machine (B.2.2.2.1 _ k_455) rfl rfl rfl rfl d_Machine_many_87 ?_
          refine mv_goto (pc := 90) (tgt := 115) B d_Machine_many_90 rfl ?_
          refine mv_lpick [1, 2, 3, 4, 5] rfl ?_
          first | exact j115 _ _ w2 (by omega) (by omega) (by rw [h112.2.2.2.2]; exact qR) (qF.tr h112) | exact j115 _ _ w2 (by omega) (by omega) qR ((qF.si rfl).si rfl)
        · skip
          have k54 := mt (lg_cmp_lt _ _).mpr h54
          rw [Int64.lt_iff_toInt_lt] at k54
          simp only [Int64.reduceToInt] at k54
          refine mv_lload (pc := 57) B d_Machine_many_57 0 rfl ?_
          refine mv_aload_n (pc := 59) B d_Machine_many_59 rfl 4 rfl ?_
          refine mv_getR (pc := 60) (ci := 9) (C := R_Machine) (T := F_Machine) (N := 13) B 0 rfl rfl (by decide) i_Machine (B.2.2.2.1 _ k_440) rfl qR.2.2 d_Machine_many_60 ?_
          refine mv_getR (pc := 63) (ci := 7) (C := R_Program) (T := F_Program) (N := 19) B 3 rfl rfl (by decide) i_Program (B.2.2.2.1 _ k_324) rfl (qR.2.1 _ 3 147 rfl) d_Machine_many_63 ?_
          refine mv_iload_n (pc := 66) B d_Machine_many_66 rfl 2 rfl ?_
          refine mv_iald (pc := 67) B rfl (i32_in (by omega) (by omega)) d_Machine_many_67 ?_
          refine mv_iload_n (pc := 68) B d_Machine_many_68 rfl 3 rfl ?_
          refine mv_isub (pc := 69) B d_Machine_many_69 ?_
          refine mv_topi (fun y69 ey69 => ?_)
          have fy69 := i32_subE ey69 (by (try simp only [Int32.reduceToInt]); omega) (by (try simp only [Int32.reduceToInt]); omega)
          try simp only [Int32.reduceToInt] at fy69
          refine mv_i2l (pc := 70) B d_Machine_many_70 ?_
          refine mv_lcmp (pc := 71) B d_Machine_many_71 ?_
          refine mv_if_le (pc := 72) (tgt := 93) B d_Machine_many_72 rfl (fun h72 => ?_) (fun h72 => ?_)
          · skip
            have k72 := (lg_cmp_le _ _).mp h72
            rw [Int64.le_iff_toInt_le, lg_toInt] at k72
            rw [fy69] at k72
            have k73 := l2i_nn (x := ix) (by omega) (by omega)
            refine mv_aload_n (pc := 93) B d_Machine_many_93 rfl 4 rfl ?_
            refine mv_aload_n (pc := 94) B d_Machine_many_94 rfl 4 rfl ?_
            refine mv_aload_n (pc := 95) B d_Machine_many_95 rfl 4 rfl ?_
            refine mv_getR (pc := 96) (ci := 9) (C := R_Machine) (T := F_Machine) (N := 13) B 0 rfl rfl (by decide) i_Machine (B.2.2.2.1 _ k_440) rfl qR.2.2 d_Machine_many_96 ?_
            refine mv_getR (pc := 99) (ci := 7) (C := R_Program) (T := F_Program) (N := 19) B 4 rfl rfl (by decide) i_Program (B.2.2.2.1 _ k_327) rfl (qR.2.1 _ 4 148 rfl) d_Machine_many_99 ?_
            refine mv_iload_n (pc := 102) B d_Machine_many_102 rfl 2 rfl ?_
            refine mv_iald (pc := 103) B rfl (i32_in (by omega) (by omega)) d_Machine_many_103 ?_
            refine mv_lload (pc := 104) B d_Machine_many_104 0 rfl ?_
            refine mv_l2i (pc := 106) B d_Machine_many_106 ?_
            refine mv_iadd (pc := 107) B d_Machine_many_107 ?_
            refine mv_topi (fun y107 ey107 => ?_)
            have fy107 := i32_addE ey107 (by (try simp only [Int32.reduceToInt]); omega) (by (try simp only [Int32.reduceToInt]); omega)
            try simp only [Int32.reduceToInt] at fy107
            refine mv_iload_n (pc := 108) B d_Machine_many_108 rfl 3 rfl ?_
            refine mv_callVl (pc := 109) (n := 2) (ci := 9) (C := R_Machine) B (mK_ok sk sv) hNs rfl rfl (c_Machine_wordAt_c l hi _ _ _ qR (by omega) (by omega) (by omega)) rfl (ma_goodc kc_Machine_wordAt) (B.2.2.2.1 _ k_1797) (B.2.2.2.1 _ k_1799) (B.2.2.2.1 _ ks_78) (B.2.2.2.1 _ k_11) ⟨by decide +kernel, by decide +kernel, by decide +kernel⟩ rfl d_Machine_many_109 rfl (Nat.le_of_ble_eq_true rfl) ⟨by decide, by decide⟩ ⟨by decide, by decide⟩ ⟨by decide, by decide⟩ (mv_noH hno _) (fun v109 σ109 h109 => ?_)
            have h109 := h109.symm
            subst h109
            refine mv_callVv (pc := 112) (n := 1) (ci := 9) (C := R_Machine) B (mK_ok sk sv) hNs rfl rfl (c_Machine_oneWith_c l hi _ _ qR th sl qP) rfl (ma_goodc kc_Machine_oneWith) (B.2.2.2.1 _ k_1801) (B.2.2.2.1 _ k_1573) (B.2.2.2.1 _ k_1574) (B.2.2.2.1 _ k_11) ⟨by decide +kernel, by decide +kernel, by decide +kernel⟩ rfl d_Machine_many_112 rfl (Nat.le_of_ble_eq_true rfl) ⟨by decide, by decide⟩ ⟨by decide, by decide⟩ ⟨by decide, by decide⟩ (mv_noH hno _) (fun σ112 h112 => ?_)
            refine mv_lpick [1, 2, 3, 4, 5] rfl ?_
            first | exact j115 _ _ w2 (by omega) (by omega) (by rw [h112.2.2.2.2]; exact qR) (qF.tr h112) | exact j115 _ _ w2 (by omega) (by omega) qR ((qF.si rfl).si rfl)
          · skip
            refine mv_aload_n (pc := 75) B d_Machine_many_75 rfl 4 rfl ?_
            refine mv_iconst (pc := 76) (v := -1) B d_Machine_many_76 (by decide) ?_
            refine mv_putI (pc := 77) (ci := 9) (C := R_Machine) (T := F_Machine) (N := 13) B 9 rfl rfl (by decide) i_Machine t_Machine_ok n_Machine (B.2.2.2.1 _ k_451) rfl rfl rfl rfl d_Machine_many_77 ?_
            refine mv_aload_n (pc := 80) B d_Machine_many_80 rfl 4 rfl ?_
            refine mv_dup (pc := 81) B d_Machine_many_81 rfl ?_
            refine mv_getI (pc := 82) (ci := 9) (C := R_Machine) (T := F_Machine) (N := 13) B 11 rfl rfl (by decide) i_Machine (B.2.2.2.1 _ k_455) rfl d_Machine_many_82 ?_
            refine mv_iconst (pc := 85) (v := 1) B d_Machine_many_85 (by decide) ?_
            refine mv_iadd (pc := 86) B d_Machine_many_86 ?_
            refine mv_putI (pc := 87) (ci := 9) (C := R_Machine) (T := F_Machine) (N := 13) B 11 rfl rfl (by decide) i_Machine t_Machine_ok n_Machine (B.2.2.2.1 _ k_455) rfl rfl rfl rfl d_Machine_many_87 ?_
            refine mv_goto (pc := 90) (tgt := 115) B d_Machine_many_90 rfl ?_
            refine mv_lpick [1, 2, 3, 4, 5] rfl ?_
            first | exact j115 _ _ w2 (by omega) (by omega) (by rw [h112.2.2.2.2]; exact qR) (qF.tr h112) | exact j115 _ _ w2 (by omega) (by omega) qR ((qF.si rfl).si rfl)
  refine mv_aload_n (pc := 0) B d_Machine_many_0 rfl 0 rfl ?_
  refine mv_getR (pc := 1) (ci := 9) (C := R_Machine) (T := F_Machine) (N := 13) B 0 rfl rfl (by decide) i_Machine (B.2.2.2.1 _ k_440) rfl hR.2.2 d_Machine_many_1 ?_
  refine mv_getI (pc := 4) (ci := 7) (C := R_Program) (T := F_Program) (N := 19) B 0 rfl rfl (by decide) i_Program (B.2.2.2.1 _ k_312) rfl d_Machine_many_4 ?_
  refine mv_bipush (pc := 7) (v := 8) B d_Machine_many_7 (by decide) ?_
  refine mv_idiv (pc := 9) B d_Machine_many_9 (by decide) ?_
  refine mv_istore_n (pc := 10) B d_Machine_many_10 rfl (by decide) rfl ?_
  refine mv_aload_n (pc := 11) B d_Machine_many_11 rfl 1 rfl ?_
  refine mv_getR (pc := 12) (ci := 9) (C := R_Machine) (T := F_Machine) (N := 13) B 0 rfl rfl (by decide) i_Machine (B.2.2.2.1 _ k_440) rfl hR.2.2 d_Machine_many_12 ?_
  refine mv_getI (pc := 15) (ci := 7) (C := R_Program) (T := F_Program) (N := 19) B 9 rfl rfl (by decide) i_Program (B.2.2.2.1 _ k_341) rfl d_Machine_many_15 ?_
  refine mv_istore_n (pc := 18) B d_Machine_many_18 rfl (by decide) rfl ?_
  refine mv_iconst (pc := 19) (v := 0) B d_Machine_many_19 (by decide) ?_
  refine mv_istore (pc := 20) B d_Machine_many_20 (by decide) rfl ?_
  refine mv_lpick [0, 1, 2, 3, 4] rfl ?_
  exact lp _ _ _ (by decide) (by decide) hR FM0 (Nat.lt_succ_self _)
def y_Machine_load : MethodName := ⟨"MachineLoom$Machine", "load", "(LMachineLoom$Program;)V"⟩
abbrev b_Machine_load : ByteArray := prog_5_method_2_code
theorem kc_Machine_load : Cond.code y_Machine_load b_Machine_load 2 (Option.none : Option Jvm.ClassFile.FieldType) ∈ ma := ma_of (tb_7 _ (List.mem_of_getElem? (i := 112) rfl)) rfl
theorem k_333 : (Jvm.Cond.fieldLink "MachineLoom$Machine" (33 : Nat) "MachineLoom$Program" "slots" "I") ∈ ma := ma_of (tb_2 _ (List.mem_of_getElem? (i := 93) rfl)) rfl
theorem k_1553 : (Jvm.Cond.methodLink "MachineLoom$Machine" (39 : Nat) ({ cls := "java/util/Arrays", name := "fill", desc := "([JIIJ)V" } : Jvm.MethodName)) ∈ ma := ma_of (tb_7 _ (List.mem_of_getElem? (i := 113) rfl)) rfl
theorem k_1554 : (Jvm.Cond.static ({ cls := "java/util/Arrays", name := "fill", desc := "([JIIJ)V" } : Jvm.MethodName)) ∈ ma := ma_of (tb_7 _ (List.mem_of_getElem? (i := 114) rfl)) rfl
theorem d_Machine_load_0 : decode b_Machine_load 0 = .ok (.aload_n 0, 1) := by decide +kernel
theorem d_Machine_load_1 : decode b_Machine_load 1 = .ok (.aload_n 1, 1) := by decide +kernel
theorem d_Machine_load_2 : decode b_Machine_load 2 = .ok (.putfield 29, 3) := by decide +kernel
theorem d_Machine_load_5 : decode b_Machine_load 5 = .ok (.aload_n 0, 1) := by decide +kernel
theorem d_Machine_load_6 : decode b_Machine_load 6 = .ok (.getfield 10, 3) := by decide +kernel
theorem d_Machine_load_9 : decode b_Machine_load 9 = .ok (.iconst 0, 1) := by decide +kernel
theorem d_Machine_load_10 : decode b_Machine_load 10 = .ok (.aload_n 0, 1) := by decide +kernel
theorem d_Machine_load_11 : decode b_Machine_load 11 = .ok (.getfield 29, 3) := by decide +kernel
theorem d_Machine_load_14 : decode b_Machine_load 14 = .ok (.getfield 33, 3) := by decide +kernel
theorem d_Machine_load_17 : decode b_Machine_load 17 = .ok (.lconst 0, 1) := by decide +kernel
theorem d_Machine_load_18 : decode b_Machine_load 18 = .ok (.invokestatic 39, 3) := by decide +kernel
theorem d_Machine_load_21 : decode b_Machine_load 21 = .ok (.aload_n 0, 1) := by decide +kernel
theorem d_Machine_load_22 : decode b_Machine_load 22 = .ok (.iconst 0, 1) := by decide +kernel
theorem d_Machine_load_23 : decode b_Machine_load 23 = .ok (.putfield 45, 3) := by decide +kernel
theorem d_Machine_load_26 : decode b_Machine_load 26 = .ok (.aload_n 0, 1) := by decide +kernel
theorem d_Machine_load_27 : decode b_Machine_load 27 = .ok (.iconst 0, 1) := by decide +kernel
theorem d_Machine_load_28 : decode b_Machine_load 28 = .ok (.putfield 48, 3) := by decide +kernel
theorem d_Machine_load_31 : decode b_Machine_load 31 = .ok (.return_, 1) := by decide +kernel
set_option maxHeartbeats 4000000 in
set_option maxRecDepth 100000 in
theorem c_Machine_load_a (l : Launch) {dA : FieldType → ClassId} {D : va_G} {al : Nat → Nat} {ext : mv_Sh} {sk sv : Nat → Nat} (hi : mv_inj (mg dA D al ext)) (σ : mv_H) (hm : mh (mv_r σ)) (hq : Ph 32 (mv_r σ)) (th sl : Nat) (hT : Th 32 σ th sl) : mv_C l y_Machine_load (Cond.code y_Machine_load b_Machine_load 2 (Option.none : Option Jvm.ClassFile.FieldType) :: ma) ({ frames := 2, cells := 0, slots := 0, locals := 47 }) (mg dA D al ext) (mK sk sv) [.ref (al 64), .ref (al 32)] σ (mv_Rv (fun σ1 => FM (mv_sr σ 64 0 (some 32)) σ1 ∧ Rf 32 (mv_r σ1))) := by
  refine mv_C.ofV (cc := b_Machine_load) (nL := 2) (ret := (Option.none : Option Jvm.ClassFile.FieldType)) (by decide +kernel) rfl hi (Nat.le_of_ble_eq_true rfl) ?_
  intro p e s m below meth c B hNs hr hnm hno
  have hsl := hT.2.2.2.1
  have hs9 := hT.2.2.1
  refine mv_aload_n (pc := 0) B d_Machine_load_0 rfl 0 rfl ?_
  refine mv_aload_n (pc := 1) B d_Machine_load_1 rfl 1 rfl ?_
  refine mv_putR (pc := 2) (ci := 9) (C := R_Machine) (T := F_Machine) (N := 13) B 0 rfl rfl (by decide) i_Machine t_Machine_ok n_Machine (B.2.2.2.1 _ k_440) rfl rfl d_Machine_load_2 ?_
  have hR : Rf 32 (mv_r (mv_sr σ 64 0 (some 32))) := ⟨mh_sr hm rfl, fun o k v e => by show mv_u (mv_r σ) 64 0 (some 32) o k = some v; rw [mv_u_ne _ _ (fun z => by rw [z.1] at e; cases e)]; exact hq o k v e, mv_u_same (mv_r σ) 64 0 (some 32)⟩
  refine mv_aload_n (pc := 5) B d_Machine_load_5 rfl 0 rfl ?_
  refine mv_getR (pc := 6) (ci := 9) (C := R_Machine) (T := F_Machine) (N := 13) B 1 rfl rfl (by decide) i_Machine (B.2.2.2.1 _ k_442) rfl (hR.1 _ 1 _ rfl) d_Machine_load_6 ?_
  refine mv_iconst (pc := 9) (v := 0) B d_Machine_load_9 (by decide) ?_
  refine mv_aload_n (pc := 10) B d_Machine_load_10 rfl 0 rfl ?_
  refine mv_getR (pc := 11) (ci := 9) (C := R_Machine) (T := F_Machine) (N := 13) B 0 rfl rfl (by decide) i_Machine (B.2.2.2.1 _ k_440) rfl hR.2.2 d_Machine_load_11 ?_
  refine mv_getI (pc := 14) (ci := 7) (C := R_Program) (T := F_Program) (N := 19) B 6 rfl rfl (by decide) i_Program (B.2.2.2.1 _ k_333) rfl d_Machine_load_14 ?_
  refine mv_lconst (pc := 17) (v := 0) B d_Machine_load_17 (by decide) ?_
  refine mv_callSv (pc := 18) (n := 4) B (mK_ok sk sv) hNs (c_Arrays_fill_4 l hi _ 65 65600 rfl (by decide) 0 (mv_i σ 32 6) 0 (by decide) (show (0 : Int) ≤ (mv_i σ 32 6).toInt by omega) (show (mv_i σ 32 6).toInt ≤ (65600 : Int) by omega)) rfl (ma_goodc kc_Arrays_fill_4) (B.2.2.2.1 _ k_1553) (B.2.2.2.1 _ k_1554) (B.2.2.2.1 _ k_20) ⟨by decide +kernel, by decide +kernel, by decide +kernel⟩ rfl d_Machine_load_18 rfl (Nat.le_of_ble_eq_true rfl) ⟨by decide, by decide⟩ ⟨by decide, by decide⟩ ⟨by decide, by decide⟩ (mv_noH hno _) (fun σ18 h18 => ?_)
  subst h18
  refine mv_aload_n (pc := 21) B d_Machine_load_21 rfl 0 rfl ?_
  refine mv_iconst (pc := 22) (v := 0) B d_Machine_load_22 (by decide) ?_
  refine mv_putI (pc := 23) (ci := 9) (C := R_Machine) (T := F_Machine) (N := 13) B 10 rfl rfl (by decide) i_Machine t_Machine_ok n_Machine (B.2.2.2.1 _ k_453) rfl rfl rfl rfl d_Machine_load_23 ?_
  refine mv_aload_n (pc := 26) B d_Machine_load_26 rfl 0 rfl ?_
  refine mv_iconst (pc := 27) (v := 0) B d_Machine_load_27 (by decide) ?_
  refine mv_putI (pc := 28) (ci := 9) (C := R_Machine) (T := F_Machine) (N := 13) B 11 rfl rfl (by decide) i_Machine t_Machine_ok n_Machine (B.2.2.2.1 _ k_455) rfl rfl rfl rfl d_Machine_load_28 ?_
  exact mv_vret (pc := 31) B hr d_Machine_load_31 (Nat.le_refl _) (Nat.le_refl _) ⟨rfl, ((Fr.cb FM0 (Or.inl rfl)).si rfl).si rfl, hR⟩
set_option maxHeartbeats 4000000 in
set_option maxRecDepth 100000 in
theorem c_Machine_load_b (l : Launch) {dA : FieldType → ClassId} {D : va_G} {al : Nat → Nat} {ext : mv_Sh} {sk sv : Nat → Nat} (hi : mv_inj (mg dA D al ext)) (σ : mv_H) (hm : mh (mv_r σ)) (hq : Ph 48 (mv_r σ)) (th sl : Nat) (hT : Th 48 σ th sl) : mv_C l y_Machine_load (Cond.code y_Machine_load b_Machine_load 2 (Option.none : Option Jvm.ClassFile.FieldType) :: ma) ({ frames := 2, cells := 0, slots := 0, locals := 47 }) (mg dA D al ext) (mK sk sv) [.ref (al 64), .ref (al 48)] σ (mv_Rv (fun σ1 => FM (mv_sr σ 64 0 (some 48)) σ1 ∧ Rf 48 (mv_r σ1))) := by
  refine mv_C.ofV (cc := b_Machine_load) (nL := 2) (ret := (Option.none : Option Jvm.ClassFile.FieldType)) (by decide +kernel) rfl hi (Nat.le_of_ble_eq_true rfl) ?_
  intro p e s m below meth c B hNs hr hnm hno
  have hsl := hT.2.2.2.1
  have hs9 := hT.2.2.1
  refine mv_aload_n (pc := 0) B d_Machine_load_0 rfl 0 rfl ?_
  refine mv_aload_n (pc := 1) B d_Machine_load_1 rfl 1 rfl ?_
  refine mv_putR (pc := 2) (ci := 9) (C := R_Machine) (T := F_Machine) (N := 13) B 0 rfl rfl (by decide) i_Machine t_Machine_ok n_Machine (B.2.2.2.1 _ k_440) rfl rfl d_Machine_load_2 ?_
  have hR : Rf 48 (mv_r (mv_sr σ 64 0 (some 48))) := ⟨mh_sr hm rfl, fun o k v e => by show mv_u (mv_r σ) 64 0 (some 48) o k = some v; rw [mv_u_ne _ _ (fun z => by rw [z.1] at e; cases e)]; exact hq o k v e, mv_u_same (mv_r σ) 64 0 (some 48)⟩
  refine mv_aload_n (pc := 5) B d_Machine_load_5 rfl 0 rfl ?_
  refine mv_getR (pc := 6) (ci := 9) (C := R_Machine) (T := F_Machine) (N := 13) B 1 rfl rfl (by decide) i_Machine (B.2.2.2.1 _ k_442) rfl (hR.1 _ 1 _ rfl) d_Machine_load_6 ?_
  refine mv_iconst (pc := 9) (v := 0) B d_Machine_load_9 (by decide) ?_
  refine mv_aload_n (pc := 10) B d_Machine_load_10 rfl 0 rfl ?_
  refine mv_getR (pc := 11) (ci := 9) (C := R_Machine) (T := F_Machine) (N := 13) B 0 rfl rfl (by decide) i_Machine (B.2.2.2.1 _ k_440) rfl hR.2.2 d_Machine_load_11 ?_
  refine mv_getI (pc := 14) (ci := 7) (C := R_Program) (T := F_Program) (N := 19) B 6 rfl rfl (by decide) i_Program (B.2.2.2.1 _ k_333) rfl d_Machine_load_14 ?_
  refine mv_lconst (pc := 17) (v := 0) B d_Machine_load_17 (by decide) ?_
  refine mv_callSv (pc := 18) (n := 4) B (mK_ok sk sv) hNs (c_Arrays_fill_4 l hi _ 65 65600 rfl (by decide) 0 (mv_i σ 48 6) 0 (by decide) (show (0 : Int) ≤ (mv_i σ 48 6).toInt by omega) (show (mv_i σ 48 6).toInt ≤ (65600 : Int) by omega)) rfl (ma_goodc kc_Arrays_fill_4) (B.2.2.2.1 _ k_1553) (B.2.2.2.1 _ k_1554) (B.2.2.2.1 _ k_20) ⟨by decide +kernel, by decide +kernel, by decide +kernel⟩ rfl d_Machine_load_18 rfl (Nat.le_of_ble_eq_true rfl) ⟨by decide, by decide⟩ ⟨by decide, by decide⟩ ⟨by decide, by decide⟩ (mv_noH hno _) (fun σ18 h18 => ?_)
  subst h18
  refine mv_aload_n (pc := 21) B d_Machine_load_21 rfl 0 rfl ?_
  refine mv_iconst (pc := 22) (v := 0) B d_Machine_load_22 (by decide) ?_
  refine mv_putI (pc := 23) (ci := 9) (C := R_Machine) (T := F_Machine) (N := 13) B 10 rfl rfl (by decide) i_Machine t_Machine_ok n_Machine (B.2.2.2.1 _ k_453) rfl rfl rfl rfl d_Machine_load_23 ?_
  refine mv_aload_n (pc := 26) B d_Machine_load_26 rfl 0 rfl ?_
  refine mv_iconst (pc := 27) (v := 0) B d_Machine_load_27 (by decide) ?_
  refine mv_putI (pc := 28) (ci := 9) (C := R_Machine) (T := F_Machine) (N := 13) B 11 rfl rfl (by decide) i_Machine t_Machine_ok n_Machine (B.2.2.2.1 _ k_455) rfl rfl rfl rfl d_Machine_load_28 ?_
  exact mv_vret (pc := 31) B hr d_Machine_load_31 (Nat.le_refl _) (Nat.le_refl _) ⟨rfl, ((Fr.cb FM0 (Or.inl rfl)).si rfl).si rfl, hR⟩
set_option maxHeartbeats 4000000 in
set_option maxRecDepth 100000 in
theorem c_Machine_load_c (l : Launch) {dA : FieldType → ClassId} {D : va_G} {al : Nat → Nat} {sk sv : Nat → Nat} (hi : mv_inj (mg dA D al me)) (σ : mv_H) (hm : mh (mv_r σ)) (hq : Ph 145 (mv_r σ)) (th sl : Nat) (hT : Th 145 σ th sl) : mv_C l y_Machine_load (Cond.code y_Machine_load b_Machine_load 2 (Option.none : Option Jvm.ClassFile.FieldType) :: ma) ({ frames := 2, cells := 0, slots := 0, locals := 47 }) (mg dA D al me) (mK sk sv) [.ref (al 64), .ref (al 145)] σ (mv_Rv (fun σ1 => FM (mv_sr σ 64 0 (some 145)) σ1 ∧ Rf 145 (mv_r σ1))) := by
  refine mv_C.ofV (cc := b_Machine_load) (nL := 2) (ret := (Option.none : Option Jvm.ClassFile.FieldType)) (by decide +kernel) rfl hi (Nat.le_of_ble_eq_true rfl) ?_
  intro p e s m below meth c B hNs hr hnm hno
  have hsl := hT.2.2.2.1
  have hs9 := hT.2.2.1
  refine mv_aload_n (pc := 0) B d_Machine_load_0 rfl 0 rfl ?_
  refine mv_aload_n (pc := 1) B d_Machine_load_1 rfl 1 rfl ?_
  refine mv_putR (pc := 2) (ci := 9) (C := R_Machine) (T := F_Machine) (N := 13) B 0 rfl rfl (by decide) i_Machine t_Machine_ok n_Machine (B.2.2.2.1 _ k_440) rfl rfl d_Machine_load_2 ?_
  have hR : Rf 145 (mv_r (mv_sr σ 64 0 (some 145))) := ⟨mh_sr hm rfl, fun o k v e => by show mv_u (mv_r σ) 64 0 (some 145) o k = some v; rw [mv_u_ne _ _ (fun z => by rw [z.1] at e; cases e)]; exact hq o k v e, mv_u_same (mv_r σ) 64 0 (some 145)⟩
  refine mv_aload_n (pc := 5) B d_Machine_load_5 rfl 0 rfl ?_
  refine mv_getR (pc := 6) (ci := 9) (C := R_Machine) (T := F_Machine) (N := 13) B 1 rfl rfl (by decide) i_Machine (B.2.2.2.1 _ k_442) rfl (hR.1 _ 1 _ rfl) d_Machine_load_6 ?_
  refine mv_iconst (pc := 9) (v := 0) B d_Machine_load_9 (by decide) ?_
  refine mv_aload_n (pc := 10) B d_Machine_load_10 rfl 0 rfl ?_
  refine mv_getR (pc := 11) (ci := 9) (C := R_Machine) (T := F_Machine) (N := 13) B 0 rfl rfl (by decide) i_Machine (B.2.2.2.1 _ k_440) rfl hR.2.2 d_Machine_load_11 ?_
  refine mv_getI (pc := 14) (ci := 7) (C := R_Program) (T := F_Program) (N := 19) B 6 rfl rfl (by decide) i_Program (B.2.2.2.1 _ k_333) rfl d_Machine_load_14 ?_
  refine mv_lconst (pc := 17) (v := 0) B d_Machine_load_17 (by decide) ?_
  refine mv_callSv (pc := 18) (n := 4) B (mK_ok sk sv) hNs (c_Arrays_fill_4 l hi _ 65 65600 rfl (by decide) 0 (mv_i σ 145 6) 0 (by decide) (show (0 : Int) ≤ (mv_i σ 145 6).toInt by omega) (show (mv_i σ 145 6).toInt ≤ (65600 : Int) by omega)) rfl (ma_goodc kc_Arrays_fill_4) (B.2.2.2.1 _ k_1553) (B.2.2.2.1 _ k_1554) (B.2.2.2.1 _ k_20) ⟨by decide +kernel, by decide +kernel, by decide +kernel⟩ rfl d_Machine_load_18 rfl (Nat.le_of_ble_eq_true rfl) ⟨by decide, by decide⟩ ⟨by decide, by decide⟩ ⟨by decide, by decide⟩ (mv_noH hno _) (fun σ18 h18 => ?_)
  subst h18
  refine mv_aload_n (pc := 21) B d_Machine_load_21 rfl 0 rfl ?_
  refine mv_iconst (pc := 22) (v := 0) B d_Machine_load_22 (by decide) ?_
  refine mv_putI (pc := 23) (ci := 9) (C := R_Machine) (T := F_Machine) (N := 13) B 10 rfl rfl (by decide) i_Machine t_Machine_ok n_Machine (B.2.2.2.1 _ k_453) rfl rfl rfl rfl d_Machine_load_23 ?_
  refine mv_aload_n (pc := 26) B d_Machine_load_26 rfl 0 rfl ?_
  refine mv_iconst (pc := 27) (v := 0) B d_Machine_load_27 (by decide) ?_
  refine mv_putI (pc := 28) (ci := 9) (C := R_Machine) (T := F_Machine) (N := 13) B 11 rfl rfl (by decide) i_Machine t_Machine_ok n_Machine (B.2.2.2.1 _ k_455) rfl rfl rfl rfl d_Machine_load_28 ?_
  exact mv_vret (pc := 31) B hr d_Machine_load_31 (Nat.le_refl _) (Nat.le_refl _) ⟨rfl, ((Fr.cb FM0 (Or.inl rfl)).si rfl).si rfl, hR⟩
