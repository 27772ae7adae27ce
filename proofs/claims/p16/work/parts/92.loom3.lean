/-! new MachineLoom(): first.clear() and the tree of no ops, while the machine is not yet made -/
set_option maxHeartbeats 4000000 in
set_option maxRecDepth 100000 in
theorem c_Long_bitCountF_k (l : Launch) {dA : FieldType → ClassId} {D : va_G} {al : Nat → Nat} {sk sv : Nat → Nat} (hi : mv_inj (mq dA D al 64)) (σ : mv_H) (x : Int64) : mv_C l y_Long_bitCount (Cond.code y_Long_bitCount b_Long_bitCount 2 (Option.some Jvm.ClassFile.FieldType.int) :: ma) ({ frames := 0, cells := 0, slots := 0, locals := 0 }) (mq dA D al 64) (mK sk sv) [.long x] σ (mv_Ri (fun v σ1 => σ1 = σ ∧ v = bcL x)) := by
  refine mv_C.ofV (cc := b_Long_bitCount) (nL := 2) (ret := (Option.some Jvm.ClassFile.FieldType.int)) (by decide +kernel) rfl hi (Nat.le_of_ble_eq_true rfl) ?_
  intro p e s m below meth c B hNs hr hnm hno
  refine mv_lload_n (pc := 0) B d_Long_bitCount_0 rfl 0 rfl ?_
  refine mv_lload_n (pc := 1) B d_Long_bitCount_1 rfl 0 rfl ?_
  refine mv_iconst (pc := 2) (v := 1) B d_Long_bitCount_2 (by decide) ?_
  refine mv_lushr (pc := 3) B d_Long_bitCount_3 ?_
  refine mv_ldc2 (pc := 4) (v := 6148914691236517205) B (B.2.2.2.1 _ k_426) d_Long_bitCount_4 ?_
  refine mv_land (pc := 7) B d_Long_bitCount_7 ?_
  refine mv_lsub (pc := 8) B d_Long_bitCount_8 ?_
  refine mv_lstore_n (pc := 9) B d_Long_bitCount_9 rfl (by decide) rfl ?_
  refine mv_lload_n (pc := 10) B d_Long_bitCount_10 rfl 0 rfl ?_
  refine mv_ldc2 (pc := 11) (v := 3689348814741910323) B (B.2.2.2.1 _ k_427) d_Long_bitCount_11 ?_
  refine mv_land (pc := 14) B d_Long_bitCount_14 ?_
  refine mv_lload_n (pc := 15) B d_Long_bitCount_15 rfl 0 rfl ?_
  refine mv_iconst (pc := 16) (v := 2) B d_Long_bitCount_16 (by decide) ?_
  refine mv_lushr (pc := 17) B d_Long_bitCount_17 ?_
  refine mv_ldc2 (pc := 18) (v := 3689348814741910323) B (B.2.2.2.1 _ k_427) d_Long_bitCount_18 ?_
  refine mv_land (pc := 21) B d_Long_bitCount_21 ?_
  refine mv_ladd (pc := 22) B d_Long_bitCount_22 ?_
  refine mv_lstore_n (pc := 23) B d_Long_bitCount_23 rfl (by decide) rfl ?_
  refine mv_lload_n (pc := 24) B d_Long_bitCount_24 rfl 0 rfl ?_
  refine mv_lload_n (pc := 25) B d_Long_bitCount_25 rfl 0 rfl ?_
  refine mv_iconst (pc := 26) (v := 4) B d_Long_bitCount_26 (by decide) ?_
  refine mv_lushr (pc := 27) B d_Long_bitCount_27 ?_
  refine mv_ladd (pc := 28) B d_Long_bitCount_28 ?_
  refine mv_ldc2 (pc := 29) (v := 1085102592571150095) B (B.2.2.2.1 _ k_428) d_Long_bitCount_29 ?_
  refine mv_land (pc := 32) B d_Long_bitCount_32 ?_
  refine mv_lstore_n (pc := 33) B d_Long_bitCount_33 rfl (by decide) rfl ?_
  refine mv_lload_n (pc := 34) B d_Long_bitCount_34 rfl 0 rfl ?_
  refine mv_lload_n (pc := 35) B d_Long_bitCount_35 rfl 0 rfl ?_
  refine mv_bipush (pc := 36) (v := 8) B d_Long_bitCount_36 (by decide) ?_
  refine mv_lushr (pc := 38) B d_Long_bitCount_38 ?_
  refine mv_ladd (pc := 39) B d_Long_bitCount_39 ?_
  refine mv_lstore_n (pc := 40) B d_Long_bitCount_40 rfl (by decide) rfl ?_
  refine mv_lload_n (pc := 41) B d_Long_bitCount_41 rfl 0 rfl ?_
  refine mv_lload_n (pc := 42) B d_Long_bitCount_42 rfl 0 rfl ?_
  refine mv_bipush (pc := 43) (v := 16) B d_Long_bitCount_43 (by decide) ?_
  refine mv_lushr (pc := 45) B d_Long_bitCount_45 ?_
  refine mv_ladd (pc := 46) B d_Long_bitCount_46 ?_
  refine mv_lstore_n (pc := 47) B d_Long_bitCount_47 rfl (by decide) rfl ?_
  refine mv_lload_n (pc := 48) B d_Long_bitCount_48 rfl 0 rfl ?_
  refine mv_lload_n (pc := 49) B d_Long_bitCount_49 rfl 0 rfl ?_
  refine mv_bipush (pc := 50) (v := 32) B d_Long_bitCount_50 (by decide) ?_
  refine mv_lushr (pc := 52) B d_Long_bitCount_52 ?_
  refine mv_ladd (pc := 53) B d_Long_bitCount_53 ?_
  refine mv_lstore_n (pc := 54) B d_Long_bitCount_54 rfl (by decide) rfl ?_
  refine mv_lload_n (pc := 55) B d_Long_bitCount_55 rfl 0 rfl ?_
  refine mv_l2i (pc := 56) B d_Long_bitCount_56 ?_
  refine mv_bipush (pc := 57) (v := 127) B d_Long_bitCount_57 (by decide) ?_
  refine mv_iand (pc := 59) B d_Long_bitCount_59 ?_
  exact mv_iret (pc := 60) B hr rfl d_Long_bitCount_60 (Nat.le_refl _) (Nat.le_refl _) ⟨_, rfl, rfl, rfl⟩

set_option maxHeartbeats 4000000 in
set_option maxRecDepth 100000 in
theorem c_Program_clear_k (l : Launch) {dA : FieldType → ClassId} {D : va_G} {al : Nat → Nat} {sk sv : Nat → Nat} (hi : mv_inj (mq dA D al 64)) (σ : mv_H)  : mv_C l y_Program_clear (Cond.code y_Program_clear b_Program_clear 1 (Option.none : Option Jvm.ClassFile.FieldType) :: ma) ({ frames := 0, cells := 0, slots := 0, locals := 0 }) (mq dA D al 64) (mK sk sv) [.ref (al 32)] σ (mv_Rv (fun σ1 => σ1 = pr_clear 32 σ)) := by
  refine mv_C.ofV (cc := b_Program_clear) (nL := 1) (ret := (Option.none : Option Jvm.ClassFile.FieldType)) (by decide +kernel) rfl hi (Nat.le_of_ble_eq_true rfl) ?_
  intro p e s m below meth c B hNs hr hnm hno
  refine mv_aload_n (pc := 0) B d_Program_clear_0 rfl 0 rfl ?_
  refine mv_bipush (pc := 1) (v := 8) B d_Program_clear_1 (by decide) ?_
  refine mv_putI (pc := 3) (ci := 7) (C := R_Program) (T := F_Program) (N := 19) B 0 rfl rfl (by decide) i_Program t_Program_ok n_Program (B.2.2.2.1 _ k_311) rfl rfl rfl rfl d_Program_clear_3 ?_
  refine mv_aload_n (pc := 6) B d_Program_clear_6 rfl 0 rfl ?_
  refine mv_iconst (pc := 7) (v := 0) B d_Program_clear_7 (by decide) ?_
  refine mv_putI (pc := 8) (ci := 7) (C := R_Program) (T := F_Program) (N := 19) B 1 rfl rfl (by decide) i_Program t_Program_ok n_Program (B.2.2.2.1 _ k_315) rfl rfl rfl rfl d_Program_clear_8 ?_
  refine mv_aload_n (pc := 11) B d_Program_clear_11 rfl 0 rfl ?_
  refine mv_iconst (pc := 12) (v := 0) B d_Program_clear_12 (by decide) ?_
  refine mv_putI (pc := 13) (ci := 7) (C := R_Program) (T := F_Program) (N := 19) B 6 rfl rfl (by decide) i_Program t_Program_ok n_Program (B.2.2.2.1 _ k_332) rfl rfl rfl rfl d_Program_clear_13 ?_
  refine mv_aload_n (pc := 16) B d_Program_clear_16 rfl 0 rfl ?_
  refine mv_iconst (pc := 17) (v := 0) B d_Program_clear_17 (by decide) ?_
  refine mv_putI (pc := 18) (ci := 7) (C := R_Program) (T := F_Program) (N := 19) B 7 rfl rfl (by decide) i_Program t_Program_ok n_Program (B.2.2.2.1 _ k_334) rfl rfl rfl rfl d_Program_clear_18 ?_
  refine mv_aload_n (pc := 21) B d_Program_clear_21 rfl 0 rfl ?_
  refine mv_iconst (pc := 22) (v := -1) B d_Program_clear_22 (by decide) ?_
  refine mv_putI (pc := 23) (ci := 7) (C := R_Program) (T := F_Program) (N := 19) B 8 rfl rfl (by decide) i_Program t_Program_ok n_Program (B.2.2.2.1 _ k_337) rfl rfl rfl rfl d_Program_clear_23 ?_
  refine mv_aload_n (pc := 26) B d_Program_clear_26 rfl 0 rfl ?_
  refine mv_iconst (pc := 27) (v := -1) B d_Program_clear_27 (by decide) ?_
  refine mv_putI (pc := 28) (ci := 7) (C := R_Program) (T := F_Program) (N := 19) B 9 rfl rfl (by decide) i_Program t_Program_ok n_Program (B.2.2.2.1 _ k_340) rfl rfl rfl rfl d_Program_clear_28 ?_
  refine mv_aload_n (pc := 31) B d_Program_clear_31 rfl 0 rfl ?_
  refine mv_iconst (pc := 32) (v := 0) B d_Program_clear_32 (by decide) ?_
  refine mv_putI (pc := 33) (ci := 7) (C := R_Program) (T := F_Program) (N := 19) B 10 rfl rfl (by decide) i_Program t_Program_ok n_Program (B.2.2.2.1 _ k_345) rfl rfl rfl rfl d_Program_clear_33 ?_
  refine mv_aload_n (pc := 36) B d_Program_clear_36 rfl 0 rfl ?_
  refine mv_iconst (pc := 37) (v := 0) B d_Program_clear_37 (by decide) ?_
  refine mv_putI (pc := 38) (ci := 7) (C := R_Program) (T := F_Program) (N := 19) B 17 rfl rfl (by decide) i_Program t_Program_ok n_Program (B.2.2.2.1 _ k_361) rfl rfl rfl rfl d_Program_clear_38 ?_
  exact mv_vret (pc := 41) B hr d_Program_clear_41 (Nat.le_refl _) (Nat.le_refl _) ⟨rfl, rfl⟩

set_option maxHeartbeats 4000000 in
set_option maxRecDepth 100000 in
theorem c_Tree_addLeaf_k (l : Launch) {dA : FieldType → ClassId} {D : va_G} {al : Nat → Nat} {sk sv : Nat → Nat} (hi : mv_inj (mq dA D al 64)) (σ : mv_H) (a b : Int32) (hq : Ph 32 (mv_r σ)) (g0 : 0 ≤ (mv_i σ 43 4).toInt) (g1 : (mv_i σ 43 4).toInt < 1025) : mv_C l y_Tree_addLeaf (Cond.code y_Tree_addLeaf b_Tree_addLeaf 3 (Option.none : Option Jvm.ClassFile.FieldType) :: ma) ({ frames := 0, cells := 0, slots := 0, locals := 0 }) (mq dA D al 64) (mK sk sv) [.ref (al 43), .int a, .int b] σ (mv_Rv (fun σ1 => σ1 = tr_leaf 32 σ a b)) := by
  refine mv_C.ofV (cc := b_Tree_addLeaf) (nL := 3) (ret := (Option.none : Option Jvm.ClassFile.FieldType)) (by decide +kernel) rfl hi (Nat.le_of_ble_eq_true rfl) ?_
  intro p e s m below meth c B hNs hr hnm hno
  refine mv_aload_n (pc := 0) B d_Tree_addLeaf_0 rfl 0 rfl ?_
  refine mv_getR (pc := 1) (ci := 8) (C := R_Tree) (T := F_Tree) (N := 5) B 1 rfl rfl (by decide) i_Tree (B.2.2.2.1 _ k_293) rfl (hq _ 1 45 rfl) d_Tree_addLeaf_1 ?_
  refine mv_aload_n (pc := 4) B d_Tree_addLeaf_4 rfl 0 rfl ?_
  refine mv_getI (pc := 5) (ci := 8) (C := R_Tree) (T := F_Tree) (N := 5) B 4 rfl rfl (by decide) i_Tree (B.2.2.2.1 _ k_298) rfl d_Tree_addLeaf_5 ?_
  refine mv_iconst (pc := 8) (v := -1) B d_Tree_addLeaf_8 (by decide) ?_
  refine mv_iast (pc := 9) B rfl (i32_in g0 g1) d_Tree_addLeaf_9 ?_
  refine mv_aload_n (pc := 10) B d_Tree_addLeaf_10 rfl 0 rfl ?_
  refine mv_getR (pc := 11) (ci := 8) (C := R_Tree) (T := F_Tree) (N := 5) B 2 rfl rfl (by decide) i_Tree (B.2.2.2.1 _ k_294) rfl (hq _ 2 46 rfl) d_Tree_addLeaf_11 ?_
  refine mv_aload_n (pc := 14) B d_Tree_addLeaf_14 rfl 0 rfl ?_
  refine mv_getI (pc := 15) (ci := 8) (C := R_Tree) (T := F_Tree) (N := 5) B 4 rfl rfl (by decide) i_Tree (B.2.2.2.1 _ k_298) rfl d_Tree_addLeaf_15 ?_
  refine mv_iload_n (pc := 18) B d_Tree_addLeaf_18 rfl 1 rfl ?_
  refine mv_iast (pc := 19) B rfl (i32_in g0 g1) d_Tree_addLeaf_19 ?_
  refine mv_aload_n (pc := 20) B d_Tree_addLeaf_20 rfl 0 rfl ?_
  refine mv_getR (pc := 21) (ci := 8) (C := R_Tree) (T := F_Tree) (N := 5) B 3 rfl rfl (by decide) i_Tree (B.2.2.2.1 _ k_296) rfl (hq _ 3 47 rfl) d_Tree_addLeaf_21 ?_
  refine mv_aload_n (pc := 24) B d_Tree_addLeaf_24 rfl 0 rfl ?_
  refine mv_getI (pc := 25) (ci := 8) (C := R_Tree) (T := F_Tree) (N := 5) B 4 rfl rfl (by decide) i_Tree (B.2.2.2.1 _ k_298) rfl d_Tree_addLeaf_25 ?_
  refine mv_iload_n (pc := 28) B d_Tree_addLeaf_28 rfl 2 rfl ?_
  refine mv_iast (pc := 29) B rfl (i32_in g0 g1) d_Tree_addLeaf_29 ?_
  refine mv_aload_n (pc := 30) B d_Tree_addLeaf_30 rfl 0 rfl ?_
  refine mv_dup (pc := 31) B d_Tree_addLeaf_31 rfl ?_
  refine mv_getI (pc := 32) (ci := 8) (C := R_Tree) (T := F_Tree) (N := 5) B 4 rfl rfl (by decide) i_Tree (B.2.2.2.1 _ k_298) rfl d_Tree_addLeaf_32 ?_
  refine mv_iconst (pc := 35) (v := 1) B d_Tree_addLeaf_35 (by decide) ?_
  refine mv_iadd (pc := 36) B d_Tree_addLeaf_36 ?_
  refine mv_putI (pc := 37) (ci := 8) (C := R_Tree) (T := F_Tree) (N := 5) B 4 rfl rfl (by decide) i_Tree t_Tree_ok n_Tree (B.2.2.2.1 _ k_298) rfl rfl rfl rfl d_Tree_addLeaf_37 ?_
  exact mv_vret (pc := 40) B hr d_Tree_addLeaf_40 (Nat.le_refl _) (Nat.le_refl _) ⟨rfl, rfl⟩

set_option maxHeartbeats 4000000 in
set_option maxRecDepth 100000 in
theorem c_Tree_partingBit_k (l : Launch) {dA : FieldType → ClassId} {D : va_G} {al : Nat → Nat} {sk sv : Nat → Nat} (hi : mv_inj (mq dA D al 64)) (σ : mv_H) (f e9 : Int32) (hq : Ph 32 (mv_r σ)) (g0 : 0 ≤ f.toInt) (g1 : f.toInt ≤ e9.toInt) (g2 : e9.toInt ≤ 512) (hor : ∀ i : Nat, f.toInt ≤ i → (i : Int) < e9.toInt → 0 ≤ (mv_a σ 44 i).toInt ∧ (mv_a σ 44 i).toInt < 512) : mv_C l y_Tree_partingBit (Cond.code y_Tree_partingBit b_Tree_partingBit 12 (Option.some Jvm.ClassFile.FieldType.int) :: ma) ({ frames := 1, cells := 0, slots := 0, locals := 21 }) (mq dA D al 64) (mK sk sv) [.ref (al 43), .ref (al 32), .int f, .int e9] σ (mv_Ri (fun v σ1 => σ1 = σ ∧ (v = -1 ∨ ∃ b, b < 64 ∧ v = Int32.ofNat b ∧ (∃ i : Nat, f.toInt ≤ i ∧ (i : Int) < e9.toInt ∧ tB 32 σ b i = true) ∧ (∃ i : Nat, f.toInt ≤ i ∧ (i : Int) < e9.toInt ∧ tB 32 σ b i = false) ∧ ∀ i : Nat, f.toInt ≤ i → (i : Int) < e9.toInt → (mv_b σ 37 (mv_a σ 44 i).toNatClampNeg).toBitVec.getLsbD b = true))) := by
  refine mv_C.ofV (cc := b_Tree_partingBit) (nL := 12) (ret := (Option.some Jvm.ClassFile.FieldType.int)) (by decide +kernel) rfl hi (Nat.le_of_ble_eq_true rfl) ?_
  intro p e s m below meth c B hNs hr hnm hno
  have lp : ∀ (nn : Nat) (j : Int32) (w9 : Int64) (n9 : Int64) (x9 : Int64) (q0 : f.toInt ≤ j.toInt) (qj : j.toInt ≤ e9.toInt) (q1 : ∀ b9, w9.toBitVec.getLsbD b9 = true → ∃ i : Nat, f.toInt ≤ i ∧ (i : Int) < j.toInt ∧ tB 32 σ b9 i = true) (q2 : ∀ b9, n9.toBitVec.getLsbD b9 = true → ∃ i : Nat, f.toInt ≤ i ∧ (i : Int) < j.toInt ∧ tB 32 σ b9 i = false) (q3 : ∀ b9, x9.toBitVec.getLsbD b9 = true → ∀ i : Nat, f.toInt ≤ i → (i : Int) < j.toInt → (mv_b σ 37 (mv_a σ 44 i).toNatClampNeg).toBitVec.getLsbD b9 = true), (e9.toInt - j.toInt).toNat < nn → mv_V p l e ({ frames := 1, cells := 0, slots := 0, locals := 21 }) s m ([.ref (al 43), .ref (al 32), .int f, .int e9] : List Value).toArray below meth c (mq dA D al 64) 12 0 0 (mv_Q (mq dA D al 64) below s 0 0 (mv_Ri (fun v σ1 => σ1 = σ ∧ (v = -1 ∨ ∃ b, b < 64 ∧ v = Int32.ofNat b ∧ (∃ i : Nat, f.toInt ≤ i ∧ (i : Int) < e9.toInt ∧ tB 32 σ b i = true) ∧ (∃ i : Nat, f.toInt ≤ i ∧ (i : Int) < e9.toInt ∧ tB 32 σ b i = false) ∧ ∀ i : Nat, f.toInt ≤ i → (i : Int) < e9.toInt → (mv_b σ 37 (mv_a σ 44 i).toNatClampNeg).toBitVec.getLsbD b = true)))) σ 14 [(10, .int j), (8, .long n9), (6, .long w9), (4, .long x9), (0, .ref (al 43)), (1, .ref (al 32)), (2, .int f), (3, .int e9)] [] := by
    intro nn
    induction nn with
    | zero => intro j w9 n9 x9 q0 qj q1 q2 q3 hm; exact absurd hm (Nat.not_lt_zero _)
    | succ nn ih =>
      intro j w9 n9 x9 q0 qj q1 q2 q3 hm
      refine mv_iload (pc := 14) B d_Tree_partingBit_14 0 rfl ?_
      refine mv_iload_n (pc := 16) B d_Tree_partingBit_16 rfl 7 rfl ?_
      refine mv_icmp_ge (pc := 17) (tgt := 81) B d_Tree_partingBit_17 rfl (fun h17 => ?_) (fun h17 => ?_)
      · skip
        rw [Int32.le_iff_toInt_le] at h17
        refine mv_lload (pc := 81) B d_Tree_partingBit_81 3 rfl ?_
        refine mv_lload (pc := 83) B d_Tree_partingBit_83 2 rfl ?_
        refine mv_land (pc := 85) B d_Tree_partingBit_85 ?_
        refine mv_lload (pc := 86) B d_Tree_partingBit_86 1 rfl ?_
        refine mv_land (pc := 88) B d_Tree_partingBit_88 ?_
        refine mv_lstore (pc := 89) B d_Tree_partingBit_89 (by decide) rfl ?_
        refine mv_lload (pc := 91) B d_Tree_partingBit_91 0 rfl ?_
        refine mv_lconst (pc := 93) (v := 0) B d_Tree_partingBit_93 (by decide) ?_
        refine mv_lcmp (pc := 94) B d_Tree_partingBit_94 ?_
        refine mv_if_ne (pc := 95) (tgt := 102) B d_Tree_partingBit_95 rfl (fun h95 => ?_) (fun h95 => ?_)
        · skip
          refine mv_lload (pc := 102) B d_Tree_partingBit_102 0 rfl ?_
          refine mv_lload (pc := 104) B d_Tree_partingBit_104 0 rfl ?_
          refine mv_lneg (pc := 106) B d_Tree_partingBit_106 ?_
          refine mv_land (pc := 107) B d_Tree_partingBit_107 ?_
          refine mv_lconst (pc := 108) (v := 1) B d_Tree_partingBit_108 (by decide) ?_
          refine mv_lsub (pc := 109) B d_Tree_partingBit_109 ?_
          refine mv_callSi (pc := 110) (n := 1) B (mK_ok sk sv) hNs (c_Long_bitCountF_k l hi _ _) rfl (ma_goodc kc_Long_bitCount) (B.2.2.2.1 _ k_423) (B.2.2.2.1 _ k_424) (B.2.2.2.1 _ k_10) ⟨by decide +kernel, by decide +kernel, by decide +kernel⟩ rfl d_Tree_partingBit_110 rfl (Nat.le_of_ble_eq_true rfl) ⟨by decide, by decide⟩ ⟨by decide, by decide⟩ ⟨by decide, by decide⟩ (mv_noH hno _) (fun v110 σ110 h110 => ?_)
          obtain ⟨e110, b110⟩ := h110
          have e110 := e110.symm
          subst e110
          obtain ⟨b, hb, hpb, hbb⟩ := low_bit _ (lc_ne h95)
          have ha := and_bit hpb
          have hc := and_bit ha.1
          obtain ⟨i1, x1, x2, x3⟩ := q1 b hc.2
          obtain ⟨i2, y1, y2, y3⟩ := q2 b ha.2
          exact mv_iret (pc := 113) B hr rfl d_Tree_partingBit_113 (Nat.le_refl _) (Nat.le_refl _) ⟨_, rfl, rfl, by first | exact Or.inl rfl | exact Or.inr ⟨b, hb, b110.trans hbb, ⟨i1, x1, by omega, x3⟩, ⟨i2, y1, by omega, y3⟩, fun i a e => q3 b hc.1 i a (by omega)⟩⟩
        · skip
          refine mv_iconst (pc := 98) (v := -1) B d_Tree_partingBit_98 (by decide) ?_
          refine mv_goto (pc := 99) (tgt := 113) B d_Tree_partingBit_99 rfl ?_
          exact mv_iret (pc := 113) B hr rfl d_Tree_partingBit_113 (Nat.le_refl _) (Nat.le_refl _) ⟨_, rfl, rfl, by first | exact Or.inl rfl | exact Or.inr ⟨b, hb, b110.trans hbb, ⟨i1, x1, by omega, x3⟩, ⟨i2, y1, by omega, y3⟩, fun i a e => q3 b hc.1 i a (by omega)⟩⟩
      · skip
        rw [Int32.le_iff_toInt_le] at h17
        have ej := i32_cl (x := j) (by omega)
        have ho := hor j.toNatClampNeg (by omega) (by omega)
        have eo := i32_cl (x := mv_a σ 44 j.toNatClampNeg) ho.1
        have u1 : ∀ b9, (w9 ||| mv_b σ 38 (mv_a σ 44 j.toNatClampNeg).toNatClampNeg).toBitVec.getLsbD b9 = true → ∃ i : Nat, f.toInt ≤ i ∧ (i : Int) < (j + 1).toInt ∧ tB 32 σ b9 i = true := fun b9 h => (or_bit h).elim (fun h => by obtain ⟨i, a, b, c⟩ := q1 b9 h; exact ⟨i, a, by rw [i32_inc (by omega)]; omega, c⟩) (fun h => ⟨j.toNatClampNeg, by omega, by rw [i32_inc (by omega)]; omega, h⟩)
        have u2 : ∀ b9, (n9 ||| (mv_b σ 38 (mv_a σ 44 j.toNatClampNeg).toNatClampNeg ^^^ (-1))).toBitVec.getLsbD b9 = true → ∃ i : Nat, f.toInt ≤ i ∧ (i : Int) < (j + 1).toInt ∧ tB 32 σ b9 i = false := fun b9 h => (or_bit h).elim (fun h => by obtain ⟨i, a, b, c⟩ := q2 b9 h; exact ⟨i, a, by rw [i32_inc (by omega)]; omega, c⟩) (fun h => ⟨j.toNatClampNeg, by omega, by rw [i32_inc (by omega)]; omega, not_bit h⟩)
        have u3 : ∀ b9, (x9 &&& mv_b σ 37 (mv_a σ 44 j.toNatClampNeg).toNatClampNeg).toBitVec.getLsbD b9 = true → ∀ i : Nat, f.toInt ≤ i → (i : Int) < (j + 1).toInt → (mv_b σ 37 (mv_a σ 44 i).toNatClampNeg).toBitVec.getLsbD b9 = true := fun b9 h i a b => by obtain ⟨h1, h2⟩ := and_bit h; rw [i32_inc (by omega)] at b; exact (Decidable.em (i = j.toNatClampNeg)).elim (fun e => by rw [e]; exact h2) (fun e => q3 b9 h1 i a (by omega))
        refine mv_lload (pc := 20) B d_Tree_partingBit_20 3 rfl ?_
        refine mv_aload_n (pc := 22) B d_Tree_partingBit_22 rfl 5 rfl ?_
        refine mv_getR (pc := 23) (ci := 7) (C := R_Program) (T := F_Program) (N := 19) B 11 rfl rfl (by decide) i_Program (B.2.2.2.1 _ k_349) rfl (hq _ 11 37 rfl) d_Tree_partingBit_23 ?_
        refine mv_aload_n (pc := 26) B d_Tree_partingBit_26 rfl 4 rfl ?_
        refine mv_getR (pc := 27) (ci := 8) (C := R_Tree) (T := F_Tree) (N := 5) B 0 rfl rfl (by decide) i_Tree (B.2.2.2.1 _ k_291) rfl (hq _ 0 44 rfl) d_Tree_partingBit_27 ?_
        refine mv_iload (pc := 30) B d_Tree_partingBit_30 0 rfl ?_
        refine mv_iald (pc := 32) B rfl (i32_in (by omega) (by omega)) d_Tree_partingBit_32 ?_
        refine mv_lald (pc := 33) B rfl (i32_in ho.1 ho.2) d_Tree_partingBit_33 ?_
        refine mv_land (pc := 34) B d_Tree_partingBit_34 ?_
        refine mv_lstore (pc := 35) B d_Tree_partingBit_35 (by decide) rfl ?_
        refine mv_lload (pc := 37) B d_Tree_partingBit_37 3 rfl ?_
        refine mv_aload_n (pc := 39) B d_Tree_partingBit_39 rfl 5 rfl ?_
        refine mv_getR (pc := 40) (ci := 7) (C := R_Program) (T := F_Program) (N := 19) B 12 rfl rfl (by decide) i_Program (B.2.2.2.1 _ k_352) rfl (hq _ 12 38 rfl) d_Tree_partingBit_40 ?_
        refine mv_aload_n (pc := 43) B d_Tree_partingBit_43 rfl 4 rfl ?_
        refine mv_getR (pc := 44) (ci := 8) (C := R_Tree) (T := F_Tree) (N := 5) B 0 rfl rfl (by decide) i_Tree (B.2.2.2.1 _ k_291) rfl (hq _ 0 44 rfl) d_Tree_partingBit_44 ?_
        refine mv_iload (pc := 47) B d_Tree_partingBit_47 1 rfl ?_
        refine mv_iald (pc := 49) B rfl (i32_in (by omega) (by omega)) d_Tree_partingBit_49 ?_
        refine mv_lald (pc := 50) B rfl (i32_in ho.1 ho.2) d_Tree_partingBit_50 ?_
        refine mv_lor (pc := 51) B d_Tree_partingBit_51 ?_
        refine mv_lstore (pc := 52) B d_Tree_partingBit_52 (by decide) rfl ?_
        refine mv_lload (pc := 54) B d_Tree_partingBit_54 3 rfl ?_
        refine mv_aload_n (pc := 56) B d_Tree_partingBit_56 rfl 5 rfl ?_
        refine mv_getR (pc := 57) (ci := 7) (C := R_Program) (T := F_Program) (N := 19) B 12 rfl rfl (by decide) i_Program (B.2.2.2.1 _ k_352) rfl (hq _ 12 38 rfl) d_Tree_partingBit_57 ?_
        refine mv_aload_n (pc := 60) B d_Tree_partingBit_60 rfl 4 rfl ?_
        refine mv_getR (pc := 61) (ci := 8) (C := R_Tree) (T := F_Tree) (N := 5) B 0 rfl rfl (by decide) i_Tree (B.2.2.2.1 _ k_291) rfl (hq _ 0 44 rfl) d_Tree_partingBit_61 ?_
        refine mv_iload (pc := 64) B d_Tree_partingBit_64 2 rfl ?_
        refine mv_iald (pc := 66) B rfl (i32_in (by omega) (by omega)) d_Tree_partingBit_66 ?_
        refine mv_lald (pc := 67) B rfl (i32_in ho.1 ho.2) d_Tree_partingBit_67 ?_
        refine mv_ldc2 (pc := 68) (v := -1) B (B.2.2.2.1 _ k_422) d_Tree_partingBit_68 ?_
        refine mv_lxor (pc := 71) B d_Tree_partingBit_71 ?_
        refine mv_lor (pc := 72) B d_Tree_partingBit_72 ?_
        refine mv_lstore (pc := 73) B d_Tree_partingBit_73 (by decide) rfl ?_
        refine mv_iinc (pc := 75) (j := 3) (v := 1) B d_Tree_partingBit_75 rfl (by decide) (by decide) rfl ?_
        refine mv_goto (pc := 78) (tgt := 14) B d_Tree_partingBit_78 rfl ?_
        refine mv_lpick [0, 1, 2, 3, 4, 5, 6, 7] rfl ?_
        exact ih _ _ _ _ (by rw [i32_inc (by omega)]; omega) (by rw [i32_inc (by omega)]; omega) u1 u2 u3 (by rw [i32_inc (by omega)]; omega)
  refine mv_ldc2 (pc := 0) (v := -1) B (B.2.2.2.1 _ k_422) d_Tree_partingBit_0 ?_
  refine mv_lstore (pc := 3) B d_Tree_partingBit_3 (by decide) rfl ?_
  refine mv_lconst (pc := 5) (v := 0) B d_Tree_partingBit_5 (by decide) ?_
  refine mv_lstore (pc := 6) B d_Tree_partingBit_6 (by decide) rfl ?_
  refine mv_lconst (pc := 8) (v := 0) B d_Tree_partingBit_8 (by decide) ?_
  refine mv_lstore (pc := 9) B d_Tree_partingBit_9 (by decide) rfl ?_
  refine mv_iload_n (pc := 11) B d_Tree_partingBit_11 rfl 5 rfl ?_
  refine mv_istore (pc := 12) B d_Tree_partingBit_12 (by decide) rfl ?_
  refine mv_lpick [0, 1, 2, 3, 4, 5, 6, 7] rfl ?_
  exact lp _ _ _ _ _ (Int.le_refl _) g1 (fun b9 h => zero_bit h) (fun b9 h => zero_bit h) (fun b9 h i a b => absurd b (by omega)) (Nat.lt_succ_self _)

set_option maxHeartbeats 4000000 in
set_option maxRecDepth 100000 in
theorem c_Tree_part_k (l : Launch) {dA : FieldType → ClassId} {D : va_G} {al : Nat → Nat} {sk sv : Nat → Nat} (hi : mv_inj (mq dA D al 64)) (σ : mv_H) (k9 : Int32) (k n lo9 hi9 b : Nat) (hq : Ph 32 (mv_r σ)) (hk0 : 0 ≤ k9.toInt) (hk : k9.toInt = k) (hkn : k < n) (hn : (mv_i σ 43 4).toInt = n) (hnM : n + 2 ≤ 1025) (hlo : (mv_a σ 46 k9.toNatClampNeg).toInt = lo9) (hhi : (mv_a σ 47 k9.toNatClampNeg).toInt = hi9) (hlh : lo9 ≤ hi9) (hhM : hi9 ≤ 512) (hb64 : b < 64) (hor : ∀ i : Nat, lo9 ≤ i → i < hi9 → 0 ≤ (mv_a σ 44 i).toInt ∧ (mv_a σ 44 i).toInt < 512) : mv_C l y_Tree_part (Cond.code y_Tree_part b_Tree_part 9 (Option.none : Option Jvm.ClassFile.FieldType) :: ma) ({ frames := 1, cells := 0, slots := 0, locals := 22 }) (mq dA D al 64) (mK sk sv) [.ref (al 43), .ref (al 32), .int k9, .int (Int32.ofNat b)] σ (mv_Rv (fun σ1 => tr_part 32 σ σ1 k n lo9 hi9 b)) := by
  refine mv_C.ofV (cc := b_Tree_part) (nL := 9) (ret := (Option.none : Option Jvm.ClassFile.FieldType)) (by decide +kernel) rfl hi (Nat.le_of_ble_eq_true rfl) ?_
  intro p e s m below meth c B hNs hr hnm hno
  have lp : ∀ (nn : Nat) (τ : mv_H) (jj : Int32) (mm : Int32) (j : Nat) (u9 : Nat) (qj : jj.toInt = j) (qm : mm.toInt = u9) (qp : Pt (mv_a σ 44) (mv_a τ 44) (tB 32 σ b) lo9 hi9 u9 j) (qq : Ph 32 (mv_r τ)) (qf : Fr (fun _ _ => False) (fun o => o = 44) (fun _ => False) σ τ), hi9 - j < nn → mv_V p l e ({ frames := 1, cells := 0, slots := 0, locals := 22 }) s m ([.ref (al 43), .ref (al 32), .int k9, .int (Int32.ofNat b)] : List Value).toArray below meth c (mq dA D al 64) 9 0 0 (mv_Q (mq dA D al 64) below s 0 0 (mv_Rv (fun σ1 => tr_part 32 σ σ1 k n lo9 hi9 b))) τ 24 [(7, .int jj), (6, .int mm), (5, .int (mv_a σ 47 k9.toNatClampNeg)), (4, .int (mv_a σ 46 k9.toNatClampNeg)), (0, .ref (al 43)), (1, .ref (al 32)), (2, .int k9), (3, .int (Int32.ofNat b))] [] := by
    intro nn
    induction nn with
    | zero => intro τ jj mm j u9 qj qm qp qq qf hm; exact absurd hm (Nat.not_lt_zero _)
    | succ nn ih =>
      intro τ jj mm j u9 qj qm qp qq qf hm
      refine mv_iload (pc := 24) B d_Tree_part_24 0 rfl ?_
      refine mv_iload (pc := 26) B d_Tree_part_26 2 rfl ?_
      refine mv_icmp_ge (pc := 28) (tgt := 88) B d_Tree_part_28 rfl (fun h28 => ?_) (fun h28 => ?_)
      · skip
        rw [Int32.le_iff_toInt_le] at h28
        have hjh : j = hi9 := by have := qp.2.2.1; omega
        have nd : mv_i τ 43 4 = mv_i σ 43 4 := qf.1 _ _ (fun q => q)
        have zk := i32_cl (x := k9) (by omega)
        have zk2 : k9.toNatClampNeg = k := by omega
        have fr0 : TrF 32 σ τ := qf.up (fun _ _ h => h.elim) (fun o h => by subst h; exact ⟨by decide, by decide⟩) (fun _ h => h.elim)
        refine mv_aload_n (pc := 88) B d_Tree_part_88 rfl 4 rfl ?_
        refine mv_getR (pc := 89) (ci := 8) (C := R_Tree) (T := F_Tree) (N := 5) B 1 rfl rfl (by decide) i_Tree (B.2.2.2.1 _ k_293) rfl (qq _ 1 45 rfl) d_Tree_part_89 ?_
        refine mv_iload_n (pc := 92) B d_Tree_part_92 rfl 6 rfl ?_
        refine mv_iload_n (pc := 93) B d_Tree_part_93 rfl 7 rfl ?_
        refine mv_iast (pc := 94) B rfl (i32_in hk0 (by omega)) d_Tree_part_94 ?_
        refine mv_aload_n (pc := 95) B d_Tree_part_95 rfl 4 rfl ?_
        refine mv_getR (pc := 96) (ci := 8) (C := R_Tree) (T := F_Tree) (N := 5) B 2 rfl rfl (by decide) i_Tree (B.2.2.2.1 _ k_294) rfl (qq _ 2 46 rfl) d_Tree_part_96 ?_
        refine mv_iload_n (pc := 99) B d_Tree_part_99 rfl 6 rfl ?_
        refine mv_aload_n (pc := 100) B d_Tree_part_100 rfl 4 rfl ?_
        refine mv_getI (pc := 101) (ci := 8) (C := R_Tree) (T := F_Tree) (N := 5) B 4 rfl rfl (by decide) i_Tree (B.2.2.2.1 _ k_298) rfl d_Tree_part_101 ?_
        refine mv_iast (pc := 104) B rfl (i32_in hk0 (by omega)) d_Tree_part_104 ?_
        refine mv_aload_n (pc := 105) B d_Tree_part_105 rfl 4 rfl ?_
        refine mv_getR (pc := 106) (ci := 8) (C := R_Tree) (T := F_Tree) (N := 5) B 3 rfl rfl (by decide) i_Tree (B.2.2.2.1 _ k_296) rfl (qq _ 3 47 rfl) d_Tree_part_106 ?_
        refine mv_iload_n (pc := 109) B d_Tree_part_109 rfl 6 rfl ?_
        refine mv_aload_n (pc := 110) B d_Tree_part_110 rfl 4 rfl ?_
        refine mv_getI (pc := 111) (ci := 8) (C := R_Tree) (T := F_Tree) (N := 5) B 4 rfl rfl (by decide) i_Tree (B.2.2.2.1 _ k_298) rfl d_Tree_part_111 ?_
        refine mv_iconst (pc := 114) (v := 1) B d_Tree_part_114 (by decide) ?_
        refine mv_iadd (pc := 115) B d_Tree_part_115 ?_
        refine mv_iast (pc := 116) B rfl (i32_in hk0 (by omega)) d_Tree_part_116 ?_
        refine mv_gen (fun S eS => ?_)
        have s4 : mv_i S 43 4 = mv_i σ 43 4 := by rw [eS]; exact nd
        have sq : Ph 32 (mv_r S) := by rw [eS]; exact qq
        have s12 : mv_a S 44 = mv_a τ 44 := by rw [eS]; rfl
        have sF : TrF 32 σ S := by rw [eS]; exact ((fr0.sa (by decide)).sa (by decide)).sa (by decide)
        have s13 : ∀ j, mv_a S 45 j = if j = k then Int32.ofNat b else mv_a σ 45 j := fun j => by rw [eS]; show mv_u (mv_a τ) 45 k9.toNatClampNeg _ 45 j = _; rw [u_row, zk2, qf.2.1 45 (by decide)]
        have s14 : ∀ j, mv_a S 46 j = if j = k then mv_i σ 43 4 else mv_a σ 46 j := fun j => by rw [eS]; show mv_u (mv_a τ) 46 k9.toNatClampNeg (mv_i τ 43 4) 46 j = _; rw [u_row, zk2, qf.2.1 46 (by decide), nd]
        have s15 : ∀ j, mv_a S 47 j = if j = k then mv_i σ 43 4 + 1 else mv_a σ 47 j := fun j => by rw [eS]; show mv_u (mv_a τ) 47 k9.toNatClampNeg (mv_i τ 43 4 + 1) 47 j = _; rw [u_row, zk2, qf.2.1 47 (by decide), nd]
        have ss : (mv_i S 43 4 + 1).toInt = n + 1 := by rw [s4, i32_inc (by omega)]; omega
        clear eS
        refine mv_aload_n (pc := 117) B d_Tree_part_117 rfl 4 rfl ?_
        refine mv_iload (pc := 118) B d_Tree_part_118 3 rfl ?_
        refine mv_iload (pc := 120) B d_Tree_part_120 1 rfl ?_
        refine mv_callVv (pc := 122) (n := 2) (ci := 8) (C := R_Tree) B (mK_ok sk sv) hNs rfl rfl (c_Tree_addLeaf_k l hi _ _ _ sq (by rw [s4]; omega) (by rw [s4]; omega)) rfl (ma_goodc kc_Tree_addLeaf) (B.2.2.2.1 _ k_414) (B.2.2.2.1 _ k_416) (B.2.2.2.1 _ ks_0) (B.2.2.2.1 _ k_9) ⟨by decide +kernel, by decide +kernel, by decide +kernel⟩ rfl d_Tree_part_122 rfl (Nat.le_of_ble_eq_true rfl) ⟨by decide, by decide⟩ ⟨by decide, by decide⟩ ⟨by decide, by decide⟩ (mv_noH hno _) (fun σ122 h122 => ?_)
        subst h122
        refine mv_aload_n (pc := 125) B d_Tree_part_125 rfl 4 rfl ?_
        refine mv_iload (pc := 126) B d_Tree_part_126 1 rfl ?_
        refine mv_iload (pc := 128) B d_Tree_part_128 2 rfl ?_
        refine mv_callVv (pc := 130) (n := 2) (ci := 8) (C := R_Tree) B (mK_ok sk sv) hNs rfl rfl (c_Tree_addLeaf_k l hi _ _ _ sq (by show 0 ≤ (mv_i S 43 4 + 1).toInt; omega) (by show (mv_i S 43 4 + 1).toInt < 1025; omega)) rfl (ma_goodc kc_Tree_addLeaf) (B.2.2.2.1 _ k_414) (B.2.2.2.1 _ k_416) (B.2.2.2.1 _ ks_0) (B.2.2.2.1 _ k_9) ⟨by decide +kernel, by decide +kernel, by decide +kernel⟩ rfl d_Tree_part_130 rfl (Nat.le_of_ble_eq_true rfl) ⟨by decide, by decide⟩ ⟨by decide, by decide⟩ ⟨by decide, by decide⟩ (mv_noH hno _) (fun σ130 h130 => ?_)
        subst h130
        exact mv_vret (pc := 133) B hr d_Tree_part_133 (Nat.le_refl _) (Nat.le_refl _) ⟨rfl, by rw [zk2]; exact tr_part_of qm (by rw [s12, ← hjh]; exact hjh ▸ qp) sF s4 hn (by omega) s13 s14 s15⟩
      · skip
        rw [Int32.le_iff_toInt_le] at h28
        have ejj := i32_cl (x := jj) (by omega)
        have emm := i32_cl (x := mm) (by omega)
        have zj : jj.toNatClampNeg = j := by omega
        have zm : mm.toNatClampNeg = u9 := by omega
        have eo : mv_a τ 44 jj.toNatClampNeg = mv_a σ 44 j := by rw [zj]; exact qp.2.2.2.1 j (by omega)
        have ho := hor j (by have := qp.1; have := qp.2.1; omega) (by omega)
        have eb : mv_b τ 38 = mv_b σ 38 := qf.2.2.1 _ (fun q => q)
        have p1 := qp.1
        have p2 := qp.2.1
        refine mv_aload_n (pc := 31) B d_Tree_part_31 rfl 4 rfl ?_
        refine mv_getR (pc := 32) (ci := 8) (C := R_Tree) (T := F_Tree) (N := 5) B 0 rfl rfl (by decide) i_Tree (B.2.2.2.1 _ k_291) rfl (qq _ 0 44 rfl) d_Tree_part_32 ?_
        refine mv_iload (pc := 35) B d_Tree_part_35 0 rfl ?_
        refine mv_iald (pc := 37) B rfl (i32_in (by omega) (by omega)) d_Tree_part_37 ?_
        refine mv_istore (pc := 38) B d_Tree_part_38 (by decide) rfl ?_
        refine mv_aload_n (pc := 40) B d_Tree_part_40 rfl 6 rfl ?_
        refine mv_getR (pc := 41) (ci := 7) (C := R_Program) (T := F_Program) (N := 19) B 12 rfl rfl (by decide) i_Program (B.2.2.2.1 _ k_352) rfl (qq _ 12 38 rfl) d_Tree_part_41 ?_
        refine mv_iload (pc := 44) B d_Tree_part_44 0 rfl ?_
        refine mv_lald (pc := 46) B rfl (i32_in (by rw [eo]; exact ho.1) (by rw [eo]; exact ho.2)) d_Tree_part_46 ?_
        refine mv_iload_n (pc := 47) B d_Tree_part_47 rfl 8 rfl ?_
        refine mv_lushr (pc := 48) B d_Tree_part_48 ?_
        refine mv_lconst (pc := 49) (v := 1) B d_Tree_part_49 (by decide) ?_
        refine mv_land (pc := 50) B d_Tree_part_50 ?_
        refine mv_lconst (pc := 51) (v := 0) B d_Tree_part_51 (by decide) ?_
        refine mv_lcmp (pc := 52) B d_Tree_part_52 ?_
        refine mv_if_ne (pc := 53) (tgt := 82) B d_Tree_part_53 rfl (fun h53 => ?_) (fun h53 => ?_)
        · skip
          have hz : tB 32 σ b j = true := by
            have h1 : ¬ _ = false := fun q => h53 ((lg_cmp_eq _ _).mpr ((us_bit _ b hb64).mpr q))
            rw [eb, eo] at h1
            exact (Bool.not_eq_false _).mp h1
          have hT := qp.one (by omega) hz
          have w2 : (jj + 1).toInt = j + 1 := by rw [i32_inc (by omega)]; omega
          have go := ih τ (jj + 1) mm (j + 1) u9 w2 qm hT qq qf (by omega)
          refine mv_iinc (pc := 82) (j := 1) (v := 1) B d_Tree_part_82 rfl (by decide) (by decide) rfl ?_
          refine mv_goto (pc := 85) (tgt := 24) B d_Tree_part_85 rfl ?_
          refine mv_lpick [0, 2, 3, 4, 5, 6, 7, 8] rfl ?_
          exact go
        · skip
          have hz : tB 32 σ b j = false := by
            have h1 := (us_bit _ b hb64).mp ((lg_cmp_eq _ _).mp h53)
            rw [eb, eo] at h1
            exact h1
          have hT : Pt (mv_a σ 44) (mv_a (mv_sa (mv_sa τ 44 jj.toNatClampNeg (mv_a τ 44 mm.toNatClampNeg)) 44 mm.toNatClampNeg (mv_a τ 44 jj.toNatClampNeg)) 44) (tB 32 σ b) lo9 hi9 (u9 + 1) (j + 1) := qp.zero (by omega) hz (fun i => by
              show mv_u (mv_u (mv_a τ) 44 jj.toNatClampNeg _) 44 mm.toNatClampNeg _ 44 i = _
              rw [u_row, u_row, zj, zm])
          have w1 : (mm + 1).toInt = u9 + 1 := by rw [i32_inc (by omega)]; omega
          have w2 : (jj + 1).toInt = j + 1 := by rw [i32_inc (by omega)]; omega
          have go := ih (mv_sa (mv_sa τ 44 jj.toNatClampNeg (mv_a τ 44 mm.toNatClampNeg)) 44 mm.toNatClampNeg (mv_a τ 44 jj.toNatClampNeg)) (jj + 1) (mm + 1) (j + 1) (u9 + 1) w2 w1 hT qq ((qf.sa rfl).sa rfl) (by omega)
          refine mv_aload_n (pc := 56) B d_Tree_part_56 rfl 5 rfl ?_
          refine mv_getR (pc := 57) (ci := 8) (C := R_Tree) (T := F_Tree) (N := 5) B 0 rfl rfl (by decide) i_Tree (B.2.2.2.1 _ k_291) rfl (qq _ 0 44 rfl) d_Tree_part_57 ?_
          refine mv_iload (pc := 60) B d_Tree_part_60 1 rfl ?_
          refine mv_aload_n (pc := 62) B d_Tree_part_62 rfl 5 rfl ?_
          refine mv_getR (pc := 63) (ci := 8) (C := R_Tree) (T := F_Tree) (N := 5) B 0 rfl rfl (by decide) i_Tree (B.2.2.2.1 _ k_291) rfl (qq _ 0 44 rfl) d_Tree_part_63 ?_
          refine mv_iload (pc := 66) B d_Tree_part_66 2 rfl ?_
          refine mv_iald (pc := 68) B rfl (i32_in (by omega) (by omega)) d_Tree_part_68 ?_
          refine mv_iast (pc := 69) B rfl (i32_in (by omega) (by omega)) d_Tree_part_69 ?_
          refine mv_aload_n (pc := 70) B d_Tree_part_70 rfl 5 rfl ?_
          refine mv_getR (pc := 71) (ci := 8) (C := R_Tree) (T := F_Tree) (N := 5) B 0 rfl rfl (by decide) i_Tree (B.2.2.2.1 _ k_291) rfl (qq _ 0 44 rfl) d_Tree_part_71 ?_
          refine mv_iload (pc := 74) B d_Tree_part_74 2 rfl ?_
          refine mv_iload (pc := 76) B d_Tree_part_76 0 rfl ?_
          refine mv_iast (pc := 78) B rfl (i32_in (by omega) (by omega)) d_Tree_part_78 ?_
          refine mv_iinc (pc := 79) (j := 2) (v := 1) B d_Tree_part_79 rfl (by decide) (by decide) rfl ?_
          refine mv_iinc (pc := 82) (j := 2) (v := 1) B d_Tree_part_82 rfl (by decide) (by decide) rfl ?_
          refine mv_goto (pc := 85) (tgt := 24) B d_Tree_part_85 rfl ?_
          refine mv_lpick [0, 1, 3, 4, 5, 6, 7, 8] rfl ?_
          exact go
  refine mv_aload_n (pc := 0) B d_Tree_part_0 rfl 0 rfl ?_
  refine mv_getR (pc := 1) (ci := 8) (C := R_Tree) (T := F_Tree) (N := 5) B 2 rfl rfl (by decide) i_Tree (B.2.2.2.1 _ k_294) rfl (hq _ 2 46 rfl) d_Tree_part_1 ?_
  refine mv_iload_n (pc := 4) B d_Tree_part_4 rfl 2 rfl ?_
  refine mv_iald (pc := 5) B rfl (i32_in hk0 (by omega)) d_Tree_part_5 ?_
  refine mv_istore (pc := 6) B d_Tree_part_6 (by decide) rfl ?_
  refine mv_aload_n (pc := 8) B d_Tree_part_8 rfl 1 rfl ?_
  refine mv_getR (pc := 9) (ci := 8) (C := R_Tree) (T := F_Tree) (N := 5) B 3 rfl rfl (by decide) i_Tree (B.2.2.2.1 _ k_296) rfl (hq _ 3 47 rfl) d_Tree_part_9 ?_
  refine mv_iload_n (pc := 12) B d_Tree_part_12 rfl 3 rfl ?_
  refine mv_iald (pc := 13) B rfl (i32_in hk0 (by omega)) d_Tree_part_13 ?_
  refine mv_istore (pc := 14) B d_Tree_part_14 (by decide) rfl ?_
  refine mv_iload (pc := 16) B d_Tree_part_16 1 rfl ?_
  refine mv_istore (pc := 18) B d_Tree_part_18 (by decide) rfl ?_
  refine mv_iload (pc := 20) B d_Tree_part_20 2 rfl ?_
  refine mv_istore (pc := 22) B d_Tree_part_22 (by decide) rfl ?_
  refine mv_lpick [0, 1, 2, 3, 4, 5, 6, 7] rfl ?_
  exact lp _ _ _ _ lo9 lo9 hlo hlo (Pt.start _ _ hlh) hq Fr.rf (Nat.lt_succ_self _)

set_option maxHeartbeats 4000000 in
set_option maxRecDepth 100000 in
theorem c_Tree_grow_k (l : Launch) {dA : FieldType → ClassId} {D : va_G} {al : Nat → Nat} {sk sv : Nat → Nat} (hi : mv_inj (mq dA D al 64)) (σ : mv_H) (ops : Nat) (hq : Ph 32 (mv_r σ)) (ho : (mv_i σ 32 10).toInt = ops) (hM : ops ≤ 512) : mv_C l y_Tree_grow (Cond.code y_Tree_grow b_Tree_grow 4 (Option.none : Option Jvm.ClassFile.FieldType) :: ma) ({ frames := 2, cells := 0, slots := 0, locals := 52 }) (mq dA D al 64) (mK sk sv) [.ref (al 43), .ref (al 32)] σ (mv_Rv (fun σ1 => TrF 32 σ σ1 ∧ TreeOK 32 512 σ1)) := by
  refine mv_C.ofV (cc := b_Tree_grow) (nL := 4) (ret := (Option.none : Option Jvm.ClassFile.FieldType)) (by decide +kernel) rfl hi (Nat.le_of_ble_eq_true rfl) ?_
  intro p e s m below meth c B hNs hr hnm hno
  have lp : ∀ (nn : Nat) (τ : mv_H) (jj : Int32) (j : Nat) (n : Nat) (la : Nat → Nat) (ha : Nat → Nat) (dq : Nat → Nat) (ub : Nat → List Nat) (qj : jj.toInt = j) (qg : GrS 32 τ ops j n la ha dq ub) (qn : (mv_i τ 43 4).toInt = n) (qo : (mv_i τ 32 10).toInt = ops) (qq : Ph 32 (mv_r τ)) (qf : TrF 32 σ τ) (qs : ∃ S, SmT (mv_b τ 37) (mv_b τ 38) (mv_a τ 44) (mv_a τ 45) (mv_a τ 46) (mv_a τ 47) ops n S), 1025 - j < nn → mv_V p l e ({ frames := 2, cells := 0, slots := 0, locals := 52 }) s m ([.ref (al 43), .ref (al 32)] : List Value).toArray below meth c (mq dA D al 64) 4 0 0 (mv_Q (mq dA D al 64) below s 0 0 (mv_Rv (fun σ1 => TrF 32 σ σ1 ∧ TreeOK 32 512 σ1))) τ 39 [(2, .int jj), (0, .ref (al 43)), (1, .ref (al 32))] [] := by
    intro nn
    induction nn with
    | zero => intro τ jj j n la ha dq ub qj qg qn qo qq qf qs hm; exact absurd hm (Nat.not_lt_zero _)
    | succ nn ih =>
      intro τ jj j n la ha dq ub qj qg qn qo qq qf qs hm
      refine mv_iload_n (pc := 39) B d_Tree_grow_39 rfl 0 rfl ?_
      refine mv_aload_n (pc := 40) B d_Tree_grow_40 rfl 1 rfl ?_
      refine mv_getI (pc := 41) (ci := 8) (C := R_Tree) (T := F_Tree) (N := 5) B 4 rfl rfl (by decide) i_Tree (B.2.2.2.1 _ k_298) rfl d_Tree_grow_41 ?_
      refine mv_icmp_ge (pc := 44) (tgt := 91) B d_Tree_grow_44 rfl (fun h44 => ?_) (fun h44 => ?_)
      · skip
        rw [Int32.le_iff_toInt_le] at h44
        exact mv_vret (pc := 91) B hr d_Tree_grow_91 (Nat.le_refl _) (Nat.le_refl _) ⟨rfl, qf, qg.done (P := 32) (by omega) qo hM qs⟩
      · skip
        rw [Int32.le_iff_toInt_le] at h44
        refine mv_iload_n (pc := 47) B d_Tree_grow_47 rfl 0 rfl ?_
        refine mv_aload_n (pc := 48) B d_Tree_grow_48 rfl 1 rfl ?_
        refine mv_getR (pc := 49) (ci := 8) (C := R_Tree) (T := F_Tree) (N := 5) B 1 rfl rfl (by decide) i_Tree (B.2.2.2.1 _ k_293) rfl (qq _ 1 45 rfl) d_Tree_grow_49 ?_
        refine mv_alenI (pc := 52) B rfl rfl d_Tree_grow_52 ?_
        refine mv_icmp_ge (pc := 53) (tgt := 91) B d_Tree_grow_53 rfl (fun h53 => ?_) (fun h53 => ?_)
        · skip
          rw [Int32.le_iff_toInt_le] at h53
          have h53 : (1025 : Int) ≤ jj.toInt := h53
          have hr9 := qg.room.1
          exact mv_vret (pc := 91) B hr d_Tree_grow_91 (Nat.le_refl _) (Nat.le_refl _) ⟨rfl, qf, qg.done (P := 32) (by omega) qo hM qs⟩
        · skip
          rw [Int32.le_iff_toInt_le] at h53
          have h53 : ¬ (1025 : Int) ≤ jj.toInt := h53
          have ejj := i32_cl (x := jj) (by omega)
          have zj : jj.toNatClampNeg = j := by omega
          have hu := qg.2.1 j (Nat.le_refl _) (by omega)
          have hu4 := hu.2.2.2.1
          have hu5 := hu.2.2.2.2.1
          have w14 : (mv_a τ 46 jj.toNatClampNeg).toInt = la j := by rw [zj]; exact hu.2.1
          have w15 : (mv_a τ 47 jj.toNatClampNeg).toInt = ha j := by rw [zj]; exact hu.2.2.1
          have w2 : (jj + 1).toInt = ((j + 1 : Nat) : Int) := by rw [i32_inc (by omega)]; omega
          refine mv_aload_n (pc := 56) B d_Tree_grow_56 rfl 1 rfl ?_
          refine mv_aload_n (pc := 57) B d_Tree_grow_57 rfl 2 rfl ?_
          refine mv_aload_n (pc := 58) B d_Tree_grow_58 rfl 1 rfl ?_
          refine mv_getR (pc := 59) (ci := 8) (C := R_Tree) (T := F_Tree) (N := 5) B 2 rfl rfl (by decide) i_Tree (B.2.2.2.1 _ k_294) rfl (qq _ 2 46 rfl) d_Tree_grow_59 ?_
          refine mv_iload_n (pc := 62) B d_Tree_grow_62 rfl 0 rfl ?_
          refine mv_iald (pc := 63) B rfl (i32_in (by omega) (by omega)) d_Tree_grow_63 ?_
          refine mv_aload_n (pc := 64) B d_Tree_grow_64 rfl 1 rfl ?_
          refine mv_getR (pc := 65) (ci := 8) (C := R_Tree) (T := F_Tree) (N := 5) B 3 rfl rfl (by decide) i_Tree (B.2.2.2.1 _ k_296) rfl (qq _ 3 47 rfl) d_Tree_grow_65 ?_
          refine mv_iload_n (pc := 68) B d_Tree_grow_68 rfl 0 rfl ?_
          refine mv_iald (pc := 69) B rfl (i32_in (by omega) (by omega)) d_Tree_grow_69 ?_
          refine mv_callVi (pc := 70) (n := 3) (ci := 8) (C := R_Tree) B (mK_ok sk sv) hNs rfl rfl (c_Tree_partingBit_k l hi _ _ _ qq (by omega) (by omega) (by omega) (fun i q1 q2 => ⟨(qg.1 i (by omega)).1, Int.lt_of_lt_of_le (qg.1 i (by omega)).2 (by omega)⟩)) rfl (ma_goodc kc_Tree_partingBit) (B.2.2.2.1 _ k_418) (B.2.2.2.1 _ k_420) (B.2.2.2.1 _ ks_1) (B.2.2.2.1 _ k_9) ⟨by decide +kernel, by decide +kernel, by decide +kernel⟩ rfl d_Tree_grow_70 rfl (Nat.le_of_ble_eq_true rfl) ⟨by decide, by decide⟩ ⟨by decide, by decide⟩ ⟨by decide, by decide⟩ (mv_noH hno _) (fun v70 σ70 h70 => ?_)
          obtain ⟨e70, d70⟩ := h70
          have e70 := e70.symm
          subst e70
          refine mv_istore_n (pc := 73) B d_Tree_grow_73 rfl (by decide) rfl ?_
          refine mv_iload_n (pc := 74) B d_Tree_grow_74 rfl 0 rfl ?_
          refine mv_if_lt (pc := 75) (tgt := 85) B d_Tree_grow_75 rfl (fun h75 => ?_) (fun h75 => ?_)
          · skip
            have go := ih τ (jj + 1) (j + 1) n la ha dq ub w2 (qg.leaf (by omega)) qn qo qq qf qs (by omega)
            refine mv_iinc (pc := 85) (j := 1) (v := 1) B d_Tree_grow_85 rfl (by decide) (by decide) rfl ?_
            refine mv_goto (pc := 88) (tgt := 39) B d_Tree_grow_88 rfl ?_
            refine mv_lpick [0, 2, 3] rfl ?_
            exact go
          · skip
            obtain ⟨b, hb, eb, ⟨x1, x2, x3, x4⟩, ⟨y1, y2, y3, y4⟩, hK9⟩ := d70.resolve_left (fun q => h75 (by rw [q]; decide))
            subst eb
            have hne : x1 ≠ y1 := fun q => by rw [q, y4] at x4; cases x4
            have hr9 := qg.room2 (by omega) (by omega)
            refine mv_aload_n (pc := 78) B d_Tree_grow_78 rfl 2 rfl ?_
            refine mv_aload_n (pc := 79) B d_Tree_grow_79 rfl 3 rfl ?_
            refine mv_iload_n (pc := 80) B d_Tree_grow_80 rfl 1 rfl ?_
            refine mv_iload_n (pc := 81) B d_Tree_grow_81 rfl 0 rfl ?_
            refine mv_callVv (pc := 82) (n := 3) (ci := 8) (C := R_Tree) B (mK_ok sk sv) hNs rfl rfl (c_Tree_part_k l hi _ _ j n (la j) (ha j) b qq (by omega) (by omega) (by omega) qn (by omega) w14 w15 hu4 (by omega) hb (fun i q1 q2 => ⟨(qg.1 i (by omega)).1, Int.lt_of_lt_of_le (qg.1 i (by omega)).2 (by omega)⟩)) rfl (ma_goodc kc_Tree_part) (B.2.2.2.1 _ k_429) (B.2.2.2.1 _ k_431) (B.2.2.2.1 _ ks_2) (B.2.2.2.1 _ k_9) ⟨by decide +kernel, by decide +kernel, by decide +kernel⟩ rfl d_Tree_grow_82 rfl (Nat.le_of_ble_eq_true rfl) ⟨by decide, by decide⟩ ⟨by decide, by decide⟩ ⟨by decide, by decide⟩ (mv_noH hno _) (fun σ82 h82 => ?_)
            obtain ⟨la2, ha2, dq2, ub2, g82⟩ := Gr.step qg (by omega) hb qn (by omega) y1 x1 ⟨by omega, by omega, y4⟩ ⟨by omega, by omega, x4⟩ h82
            have s82 := SmT.step (P := 32) qs qg (by omega) hb qn (by omega) (fun i a b => hK9 i (by omega) (by omega)) h82
            obtain ⟨-, -, -, -, f82, n82, -⟩ := h82
            have go := ih σ82 (jj + 1) (j + 1) (n + 2) la2 ha2 dq2 ub2 w2 g82 (by rw [n82]; rfl) (by rw [f82.1 32 10 (by decide)]; exact qo) (by rw [f82.2.2.2.2]; exact qq) (qf.tr f82) s82 (by omega)
            refine mv_iinc (pc := 85) (j := 1) (v := 1) B d_Tree_grow_85 rfl (by decide) (by decide) rfl ?_
            refine mv_goto (pc := 88) (tgt := 39) B d_Tree_grow_88 rfl ?_
            refine mv_lpick [0, 2, 3] rfl ?_
            exact go
  have l0 : ∀ (nn : Nat) (τ : mv_H) (jj : Int32) (j : Nat) (qj : jj.toInt = j) (qle : j ≤ ops) (qi : mv_i τ 32 10 = mv_i σ 32 10) (qd : ∀ i, i < j → (mv_a τ 44 i).toInt = i) (qq : Ph 32 (mv_r τ)) (qf : TrF 32 σ τ), ops - j < nn → mv_V p l e ({ frames := 2, cells := 0, slots := 0, locals := 52 }) s m ([.ref (al 43), .ref (al 32)] : List Value).toArray below meth c (mq dA D al 64) 4 0 0 (mv_Q (mq dA D al 64) below s 0 0 (mv_Rv (fun σ1 => TrF 32 σ σ1 ∧ TreeOK 32 512 σ1))) τ 2 [(2, .int jj), (0, .ref (al 43)), (1, .ref (al 32))] [] := by
    intro nn
    induction nn with
    | zero => intro τ jj j qj qle qi qd qq qf hm; exact absurd hm (Nat.not_lt_zero _)
    | succ nn ih =>
      intro τ jj j qj qle qi qd qq qf hm
      refine mv_iload_n (pc := 2) B d_Tree_grow_2 rfl 0 rfl ?_
      refine mv_aload_n (pc := 3) B d_Tree_grow_3 rfl 2 rfl ?_
      refine mv_getI (pc := 4) (ci := 7) (C := R_Program) (T := F_Program) (N := 19) B 10 rfl rfl (by decide) i_Program (B.2.2.2.1 _ k_344) rfl d_Tree_grow_4 ?_
      refine mv_icmp_ge (pc := 7) (tgt := 23) B d_Tree_grow_7 rfl (fun h7 => ?_) (fun h7 => ?_)
      · skip
        rw [Int32.le_iff_toInt_le, qi] at h7
        refine mv_aload_n (pc := 23) B d_Tree_grow_23 rfl 1 rfl ?_
        refine mv_iconst (pc := 24) (v := 0) B d_Tree_grow_24 (by decide) ?_
        refine mv_putI (pc := 25) (ci := 8) (C := R_Tree) (T := F_Tree) (N := 5) B 4 rfl rfl (by decide) i_Tree t_Tree_ok n_Tree (B.2.2.2.1 _ k_298) rfl rfl rfl rfl d_Tree_grow_25 ?_
        refine mv_aload_n (pc := 28) B d_Tree_grow_28 rfl 1 rfl ?_
        refine mv_iconst (pc := 29) (v := 0) B d_Tree_grow_29 (by decide) ?_
        refine mv_aload_n (pc := 30) B d_Tree_grow_30 rfl 2 rfl ?_
        refine mv_getI (pc := 31) (ci := 7) (C := R_Program) (T := F_Program) (N := 19) B 10 rfl rfl (by decide) i_Program (B.2.2.2.1 _ k_344) rfl d_Tree_grow_31 ?_
        refine mv_callVv (pc := 34) (n := 2) (ci := 8) (C := R_Tree) B (mK_ok sk sv) hNs rfl rfl (c_Tree_addLeaf_k l hi _ _ _ qq (by show (0 : Int) ≤ (0 : Int32).toInt; decide) (by show (0 : Int32).toInt < 1025; decide)) rfl (ma_goodc kc_Tree_addLeaf) (B.2.2.2.1 _ k_414) (B.2.2.2.1 _ k_416) (B.2.2.2.1 _ ks_0) (B.2.2.2.1 _ k_9) ⟨by decide +kernel, by decide +kernel, by decide +kernel⟩ rfl d_Tree_grow_34 rfl (Nat.le_of_ble_eq_true rfl) ⟨by decide, by decide⟩ ⟨by decide, by decide⟩ ⟨by decide, by decide⟩ (mv_noH hno _) (fun σ34 h34 => ?_)
        subst h34
        refine mv_gen (fun S eS => ?_)
        have n34 : (mv_i S 43 4).toInt = ((1 : Nat) : Int) := by rw [eS, tr_leaf_i 32]; rfl
        have o34 : (mv_i S 32 10).toInt = ops := by rw [eS]; exact (congrArg Int32.toInt qi).trans ho
        have q34 : Ph 32 (mv_r S) := by rw [eS]; exact qq
        have f34 : TrF 32 σ S := by rw [eS]; exact (qf.si ⟨rfl, rfl⟩).tr (tr_leaf_F 32 _ _ _)
        have g34 : GrS 32 S ops 0 1 (fun _ => 0) (fun _ => ops) (fun _ => 0) (fun _ => []) := Gr.init (fun i q => by rw [eS, tr_leaf_12 32]; exact qd i (by omega)) (by rw [eS, tr_leaf_13 32]; rfl) (by rw [eS, tr_leaf_14 32]; rfl) (by rw [eS, tr_leaf_15 32]; exact (congrArg Int32.toInt qi).trans ho)
        have s34 : SmT (mv_b S 37) (mv_b S 38) (mv_a S 44) (mv_a S 45) (mv_a S 46) (mv_a S 47) ops 1 (fun _ a => a < ops) := SmT.init (fun i q => by rw [eS, tr_leaf_12 32]; exact qd i (by omega)) (by rw [eS, tr_leaf_13 32]; rfl) (by rw [eS, tr_leaf_14 32]; rfl) (by rw [eS, tr_leaf_15 32]; exact (congrArg Int32.toInt qi).trans ho)
        clear eS
        refine mv_iconst (pc := 37) (v := 0) B d_Tree_grow_37 (by decide) ?_
        refine mv_istore_n (pc := 38) B d_Tree_grow_38 rfl (by decide) rfl ?_
        refine mv_lpick [0, 1, 2] rfl ?_
        exact lp _ _ _ 0 1 _ _ _ _ rfl g34 n34 o34 q34 f34 ⟨_, s34⟩ (Nat.lt_succ_self _)
      · skip
        rw [Int32.le_iff_toInt_le, qi] at h7
        have ejj := i32_cl (x := jj) (by omega)
        have w2 : (jj + 1).toInt = ((j + 1 : Nat) : Int) := by rw [i32_inc (by omega)]; omega
        have go := ih (mv_sa τ 44 jj.toNatClampNeg jj) (jj + 1) (j + 1) w2 (by omega) qi (fun i hi9 => by show (mv_u (mv_a τ) 44 jj.toNatClampNeg jj 44 i).toInt = _; rw [u_row]; exact (Decidable.em (i = jj.toNatClampNeg)).elim (fun e9 => by rw [if_pos e9]; omega) (fun e9 => by rw [if_neg e9]; exact qd i (by omega))) qq (qf.sa (by decide)) (by omega)
        refine mv_aload_n (pc := 10) B d_Tree_grow_10 rfl 1 rfl ?_
        refine mv_getR (pc := 11) (ci := 8) (C := R_Tree) (T := F_Tree) (N := 5) B 0 rfl rfl (by decide) i_Tree (B.2.2.2.1 _ k_291) rfl (qq _ 0 44 rfl) d_Tree_grow_11 ?_
        refine mv_iload_n (pc := 14) B d_Tree_grow_14 rfl 0 rfl ?_
        refine mv_iload_n (pc := 15) B d_Tree_grow_15 rfl 0 rfl ?_
        refine mv_iast (pc := 16) B rfl (i32_in (by omega) (by omega)) d_Tree_grow_16 ?_
        refine mv_iinc (pc := 17) (j := 0) (v := 1) B d_Tree_grow_17 rfl (by decide) (by decide) rfl ?_
        refine mv_goto (pc := 20) (tgt := 2) B d_Tree_grow_20 rfl ?_
        refine mv_lpick [0, 1, 2] rfl ?_
        exact go
  refine mv_iconst (pc := 0) (v := 0) B d_Tree_grow_0 (by decide) ?_
  refine mv_istore_n (pc := 1) B d_Tree_grow_1 rfl (by decide) rfl ?_
  refine mv_lpick [0, 1, 2] rfl ?_
  exact l0 _ _ _ 0 rfl (Nat.zero_le _) rfl (fun i q => by omega) hq Fr.rf (Nat.lt_succ_self _)

def y_Loom_init : MethodName := ⟨"MachineLoom", "<init>", "()V"⟩
abbrev b_Loom_init : ByteArray := prog_1_method_1_code
theorem kc_Loom_init : Cond.code y_Loom_init b_Loom_init 1 (Option.none : Option Jvm.ClassFile.FieldType) ∈ ma := ma_of (tb_1 _ (List.mem_of_getElem? (i := 41) rfl)) rfl
theorem k_42 : (Jvm.Cond.methodLink "MachineLoom" (3 : Nat) ({ cls := "java/lang/Object", name := "<init>", desc := "()V" } : Jvm.MethodName)) ∈ ma := ma_of (tb_1 _ (List.mem_of_getElem? (i := 42) rfl)) rfl
theorem k_46 : (Jvm.Cond.classLink "MachineLoom" (21 : Nat) "MachineLoom$Weaver") ∈ ma := ma_of (tb_1 _ (List.mem_of_getElem? (i := 46) rfl)) rfl
theorem k_47 : (Jvm.Cond.instantiable "MachineLoom$Weaver" (16 : Nat)) ∈ ma := ma_of (tb_1 _ (List.mem_of_getElem? (i := 47) rfl)) rfl
theorem k_49 : (Jvm.Cond.instanceMethod ({ cls := "MachineLoom$Weaver", name := "<init>", desc := "()V" } : Jvm.MethodName)) ∈ ma := ma_of (tb_1 _ (List.mem_of_getElem? (i := 49) rfl)) rfl
theorem k_491 : (Jvm.Cond.fieldLink "MachineLoom" (24 : Nat) "MachineLoom" "weaver" "LMachineLoom$Weaver;") ∈ ma := ma_of (tb_3 _ (List.mem_of_getElem? (i := 11) rfl)) rfl
theorem k_279 : (Jvm.Cond.classLink "MachineLoom" (28 : Nat) "MachineLoom$Program") ∈ ma := ma_of (tb_2 _ (List.mem_of_getElem? (i := 39) rfl)) rfl
theorem k_280 : (Jvm.Cond.instantiable "MachineLoom$Program" (19 : Nat)) ∈ ma := ma_of (tb_2 _ (List.mem_of_getElem? (i := 40) rfl)) rfl
theorem k_282 : (Jvm.Cond.instanceMethod ({ cls := "MachineLoom$Program", name := "<init>", desc := "(II)V" } : Jvm.MethodName)) ∈ ma := ma_of (tb_2 _ (List.mem_of_getElem? (i := 42) rfl)) rfl
theorem k_281 : (Jvm.Cond.methodLink "MachineLoom" (30 : Nat) ({ cls := "MachineLoom$Program", name := "<init>", desc := "(II)V" } : Jvm.MethodName)) ∈ ma := ma_of (tb_2 _ (List.mem_of_getElem? (i := 41) rfl)) rfl
theorem k_492 : (Jvm.Cond.fieldLink "MachineLoom" (33 : Nat) "MachineLoom" "first" "LMachineLoom$Program;") ∈ ma := ma_of (tb_3 _ (List.mem_of_getElem? (i := 12) rfl)) rfl
theorem k_493 : (Jvm.Cond.fieldLink "MachineLoom" (37 : Nat) "MachineLoom" "second" "LMachineLoom$Program;") ∈ ma := ma_of (tb_3 _ (List.mem_of_getElem? (i := 13) rfl)) rfl
theorem k_406 : (Jvm.Cond.methodLink "MachineLoom" (40 : Nat) ({ cls := "MachineLoom$Program", name := "clear", desc := "()V" } : Jvm.MethodName)) ∈ ma := ma_of (tb_2 _ (List.mem_of_getElem? (i := 166) rfl)) rfl
theorem k_363 : (Jvm.Cond.fieldLink "MachineLoom" (43 : Nat) "MachineLoom$Program" "tree" "LMachineLoom$Tree;") ∈ ma := ma_of (tb_2 _ (List.mem_of_getElem? (i := 123) rfl)) rfl
theorem k_410 : (Jvm.Cond.methodLink "MachineLoom" (47 : Nat) ({ cls := "MachineLoom$Tree", name := "grow", desc := "(LMachineLoom$Program;)V" } : Jvm.MethodName)) ∈ ma := ma_of (tb_2 _ (List.mem_of_getElem? (i := 170) rfl)) rfl
theorem k_433 : (Jvm.Cond.classLink "MachineLoom" (53 : Nat) "MachineLoom$Machine") ∈ ma := ma_of (tb_2 _ (List.mem_of_getElem? (i := 193) rfl)) rfl
theorem k_434 : (Jvm.Cond.instantiable "MachineLoom$Machine" (13 : Nat)) ∈ ma := ma_of (tb_2 _ (List.mem_of_getElem? (i := 194) rfl)) rfl
theorem k_436 : (Jvm.Cond.instanceMethod ({ cls := "MachineLoom$Machine", name := "<init>", desc := "(LMachineLoom$Program;)V" } : Jvm.MethodName)) ∈ ma := ma_of (tb_2 _ (List.mem_of_getElem? (i := 196) rfl)) rfl
theorem k_435 : (Jvm.Cond.methodLink "MachineLoom" (55 : Nat) ({ cls := "MachineLoom$Machine", name := "<init>", desc := "(LMachineLoom$Program;)V" } : Jvm.MethodName)) ∈ ma := ma_of (tb_2 _ (List.mem_of_getElem? (i := 195) rfl)) rfl
theorem d_Loom_init_0 : decode b_Loom_init 0 = .ok (.aload_n 0, 1) := by decide +kernel
theorem d_Loom_init_1 : decode b_Loom_init 1 = .ok (.invokespecial 3, 3) := by decide +kernel
theorem d_Loom_init_4 : decode b_Loom_init 4 = .ok (.aload_n 0, 1) := by decide +kernel
theorem d_Loom_init_5 : decode b_Loom_init 5 = .ok (.ldc 9, 2) := by decide +kernel
theorem d_Loom_init_7 : decode b_Loom_init 7 = .ok (.newarray .byte, 2) := by decide +kernel
theorem d_Loom_init_9 : decode b_Loom_init 9 = .ok (.putfield 10, 3) := by decide +kernel
theorem d_Loom_init_12 : decode b_Loom_init 12 = .ok (.aload_n 0, 1) := by decide +kernel
theorem d_Loom_init_13 : decode b_Loom_init 13 = .ok (.iconst (-1), 1) := by decide +kernel
theorem d_Loom_init_14 : decode b_Loom_init 14 = .ok (.putfield 14, 3) := by decide +kernel
theorem d_Loom_init_17 : decode b_Loom_init 17 = .ok (.aload_n 0, 1) := by decide +kernel
theorem d_Loom_init_18 : decode b_Loom_init 18 = .ok (.iconst (-1), 1) := by decide +kernel
theorem d_Loom_init_19 : decode b_Loom_init 19 = .ok (.putfield 18, 3) := by decide +kernel
theorem d_Loom_init_22 : decode b_Loom_init 22 = .ok (.aload_n 0, 1) := by decide +kernel
theorem d_Loom_init_23 : decode b_Loom_init 23 = .ok (.new 21, 3) := by decide +kernel
theorem d_Loom_init_26 : decode b_Loom_init 26 = .ok (.dup, 1) := by decide +kernel
theorem d_Loom_init_27 : decode b_Loom_init 27 = .ok (.invokespecial 23, 3) := by decide +kernel
theorem d_Loom_init_30 : decode b_Loom_init 30 = .ok (.putfield 24, 3) := by decide +kernel
theorem d_Loom_init_33 : decode b_Loom_init 33 = .ok (.aload_n 0, 1) := by decide +kernel
theorem d_Loom_init_34 : decode b_Loom_init 34 = .ok (.new 28, 3) := by decide +kernel
theorem d_Loom_init_37 : decode b_Loom_init 37 = .ok (.dup, 1) := by decide +kernel
theorem d_Loom_init_38 : decode b_Loom_init 38 = .ok (.ldc 9, 2) := by decide +kernel
theorem d_Loom_init_40 : decode b_Loom_init 40 = .ok (.sipush 512, 3) := by decide +kernel
theorem d_Loom_init_43 : decode b_Loom_init 43 = .ok (.invokespecial 30, 3) := by decide +kernel
theorem d_Loom_init_46 : decode b_Loom_init 46 = .ok (.putfield 33, 3) := by decide +kernel
theorem d_Loom_init_49 : decode b_Loom_init 49 = .ok (.aload_n 0, 1) := by decide +kernel
theorem d_Loom_init_50 : decode b_Loom_init 50 = .ok (.new 28, 3) := by decide +kernel
theorem d_Loom_init_53 : decode b_Loom_init 53 = .ok (.dup, 1) := by decide +kernel
theorem d_Loom_init_54 : decode b_Loom_init 54 = .ok (.ldc 9, 2) := by decide +kernel
theorem d_Loom_init_56 : decode b_Loom_init 56 = .ok (.sipush 512, 3) := by decide +kernel
theorem d_Loom_init_59 : decode b_Loom_init 59 = .ok (.invokespecial 30, 3) := by decide +kernel
theorem d_Loom_init_62 : decode b_Loom_init 62 = .ok (.putfield 37, 3) := by decide +kernel
theorem d_Loom_init_65 : decode b_Loom_init 65 = .ok (.aload_n 0, 1) := by decide +kernel
theorem d_Loom_init_66 : decode b_Loom_init 66 = .ok (.getfield 33, 3) := by decide +kernel
theorem d_Loom_init_69 : decode b_Loom_init 69 = .ok (.invokevirtual 40, 3) := by decide +kernel
theorem d_Loom_init_72 : decode b_Loom_init 72 = .ok (.aload_n 0, 1) := by decide +kernel
theorem d_Loom_init_73 : decode b_Loom_init 73 = .ok (.getfield 33, 3) := by decide +kernel
theorem d_Loom_init_76 : decode b_Loom_init 76 = .ok (.getfield 43, 3) := by decide +kernel
theorem d_Loom_init_79 : decode b_Loom_init 79 = .ok (.aload_n 0, 1) := by decide +kernel
theorem d_Loom_init_80 : decode b_Loom_init 80 = .ok (.getfield 33, 3) := by decide +kernel
theorem d_Loom_init_83 : decode b_Loom_init 83 = .ok (.invokevirtual 47, 3) := by decide +kernel
theorem d_Loom_init_86 : decode b_Loom_init 86 = .ok (.aload_n 0, 1) := by decide +kernel
theorem d_Loom_init_87 : decode b_Loom_init 87 = .ok (.new 53, 3) := by decide +kernel
theorem d_Loom_init_90 : decode b_Loom_init 90 = .ok (.dup, 1) := by decide +kernel
theorem d_Loom_init_91 : decode b_Loom_init 91 = .ok (.aload_n 0, 1) := by decide +kernel
theorem d_Loom_init_92 : decode b_Loom_init 92 = .ok (.getfield 33, 3) := by decide +kernel
theorem d_Loom_init_95 : decode b_Loom_init 95 = .ok (.invokespecial 55, 3) := by decide +kernel
theorem d_Loom_init_98 : decode b_Loom_init 98 = .ok (.putfield 57, 3) := by decide +kernel
theorem d_Loom_init_101 : decode b_Loom_init 101 = .ok (.return_, 1) := by decide +kernel
/-- the class, but for its machine -/
def sg_Loom (σ : mv_H) : mv_H := (pr_clear 32 (mv_sr (sg_Program_b (mv_nw (mv_sr (sg_Program_a (mv_nw (mv_sr (sg_Weaver (mv_nw (mv_si (mv_si (mv_sr (mv_nw σ 1) 0 0 (some 1)) 0 3 (-1)) 0 4 (-1)) 2)) 0 5 (some 2)) 32)) 0 6 (some 32)) 48)) 0 7 (some 48)))
theorem ok_Loom {σ : mv_H} (hok : mv_ok σ 1) : mv_ok (sg_Loom σ) 64 := by
  have hok := hok.nw
  have hok := hok.sr (o := 0) (k := 0) (r := 1) (by decide)
  have hok := mv_ok.r (σ := (mv_sr (mv_nw σ 1) 0 0 (some 1))) (τ := (mv_si (mv_sr (mv_nw σ 1) 0 0 (some 1)) 0 3 (-1))) hok rfl
  have hok := mv_ok.r (σ := (mv_si (mv_sr (mv_nw σ 1) 0 0 (some 1)) 0 3 (-1))) (τ := (mv_si (mv_si (mv_sr (mv_nw σ 1) 0 0 (some 1)) 0 3 (-1)) 0 4 (-1))) hok rfl
  have hok := hok.nw
  have hok := ok_Weaver hok
  have hok := hok.sr (o := 0) (k := 5) (r := 2) (by decide)
  have hok := hok.nw
  have hok := ok_Program_a hok
  have hok := hok.sr (o := 0) (k := 6) (r := 32) (by decide)
  have hok := hok.nw
  have hok := ok_Program_b hok
  have hok := hok.sr (o := 0) (k := 7) (r := 48) (by decide)
  have hok := mv_ok.r (σ := (mv_sr (sg_Program_b (mv_nw (mv_sr (sg_Program_a (mv_nw (mv_sr (sg_Weaver (mv_nw (mv_si (mv_si (mv_sr (mv_nw σ 1) 0 0 (some 1)) 0 3 (-1)) 0 4 (-1)) 2)) 0 5 (some 2)) 32)) 0 6 (some 32)) 48)) 0 7 (some 48))) (τ := (pr_clear 32 (mv_sr (sg_Program_b (mv_nw (mv_sr (sg_Program_a (mv_nw (mv_sr (sg_Weaver (mv_nw (mv_si (mv_si (mv_sr (mv_nw σ 1) 0 0 (some 1)) 0 3 (-1)) 0 4 (-1)) 2)) 0 5 (some 2)) 32)) 0 6 (some 32)) 48)) 0 7 (some 48)))) hok rfl
  exact hok
theorem kb_prc {σ τ : mv_H} (h : Kpb 0 σ τ) : Kpb 0 σ (pr_clear 32 τ) := (((((((h.si (by decide)).si (by decide)).si (by decide)).si (by decide)).si (by decide)).si (by decide)).si (by decide)).si (by decide)
theorem kb_Loom {σ : mv_H} (h0 : mv_ok σ 1) (hgh : gh σ) : Kpb 0 σ (sg_Loom σ) := by
  have hok := h0
  have hk : Kpb 0 σ σ := Kpb.rf
  have hk := hk.nw (m := 1) (by decide)
  have hok := hok.nw
  have hk := hk.sr (a := 0) (k := 0) (v := some 1) (by decide)
  have hok := hok.sr (o := 0) (k := 0) (r := 1) (by decide)
  have hk := hk.si (a := 0) (k := 3) (v := -1) (by decide)
  have hok := mv_ok.r (σ := (mv_sr (mv_nw σ 1) 0 0 (some 1))) (τ := (mv_si (mv_sr (mv_nw σ 1) 0 0 (some 1)) 0 3 (-1))) hok rfl
  have hk := hk.si (a := 0) (k := 4) (v := -1) (by decide)
  have hok := mv_ok.r (σ := (mv_si (mv_sr (mv_nw σ 1) 0 0 (some 1)) 0 3 (-1))) (τ := (mv_si (mv_si (mv_sr (mv_nw σ 1) 0 0 (some 1)) 0 3 (-1)) 0 4 (-1))) hok rfl
  have hk := hk.nw (m := 2) (by decide)
  have hok := hok.nw
  have hk := hk.tr2 (kb_Weaver hok (hgh.kb hk)) (by decide)
  have hok := ok_Weaver hok
  have hk := hk.sr (a := 0) (k := 5) (v := some 2) (by decide)
  have hok := hok.sr (o := 0) (k := 5) (r := 2) (by decide)
  have hk := hk.nw (m := 32) (by decide)
  have hok := hok.nw
  have hk := hk.tr2 (kb_Program_a hok (hgh.kb hk)) (by decide)
  have hok := ok_Program_a hok
  have hk := hk.sr (a := 0) (k := 6) (v := some 32) (by decide)
  have hok := hok.sr (o := 0) (k := 6) (r := 32) (by decide)
  have hk := hk.nw (m := 48) (by decide)
  have hok := hok.nw
  have hk := hk.tr2 (kb_Program_b hok (hgh.kb hk)) (by decide)
  have hok := ok_Program_b hok
  have hk := hk.sr (a := 0) (k := 7) (v := some 48) (by decide)
  have hok := hok.sr (o := 0) (k := 7) (r := 48) (by decide)
  have hk := kb_prc hk
  have hok := mv_ok.r (σ := (mv_sr (sg_Program_b (mv_nw (mv_sr (sg_Program_a (mv_nw (mv_sr (sg_Weaver (mv_nw (mv_si (mv_si (mv_sr (mv_nw σ 1) 0 0 (some 1)) 0 3 (-1)) 0 4 (-1)) 2)) 0 5 (some 2)) 32)) 0 6 (some 32)) 48)) 0 7 (some 48))) (τ := (pr_clear 32 (mv_sr (sg_Program_b (mv_nw (mv_sr (sg_Program_a (mv_nw (mv_sr (sg_Weaver (mv_nw (mv_si (mv_si (mv_sr (mv_nw σ 1) 0 0 (some 1)) 0 3 (-1)) 0 4 (-1)) 2)) 0 5 (some 2)) 32)) 0 6 (some 32)) 48)) 0 7 (some 48)))) hok rfl
  exact hk
set_option maxRecDepth 100000 in
theorem lm_ph (σ : mv_H) : Ph 32 (mv_r (sg_Loom σ)) := fun o k v e => by
  unfold mp at e
  split at e
  · rename_i q; subst q
    split at e <;> first | (cases e; rfl) | cases e
  · split at e
    · rename_i q; subst q
      split at e <;> first | (cases e; rfl) | cases e
    · cases e
set_option maxHeartbeats 4000000 in
set_option maxRecDepth 100000 in
theorem nc_Loom (l : Launch) {dA : FieldType → ClassId} {D : va_G} {al : Nat → Nat} {sk sv : Nat → Nat} (hi : mv_inj (mq dA D al 1)) (hlt : l.stackTraces = false) (σ : mv_H) (hok : mv_ok σ 1) : mv_CN l y_Loom_init (Cond.code y_Loom_init b_Loom_init 1 (Option.none : Option Jvm.ClassFile.FieldType) :: ma) ({ frames := 4, cells := 69, slots := 543671, locals := 80 }) dA D al 1 70 (mKt sk sv) [.ref (al 0)] σ (fun v9 σ9 => v9 = none ∧ ∃ υ, TrF 32 (sg_Loom σ) υ ∧ TreeOK 32 512 υ ∧ σ9 = (mv_sr (sg_Machine (mv_nw υ 64)) 0 9 (some 64)) ∧ mv_ok σ9 70) := by
  refine mv_CN.ofV (cc := b_Loom_init) (nL := 1) (ret := (Option.none : Option Jvm.ClassFile.FieldType)) (by decide +kernel) rfl hi (Nat.le_of_ble_eq_true rfl) ?_
  intro p e s m args below meth c B hNs hr hnm hno
  have hg : mq_gr al al 1 1 s.heap.size := mq_gr.rf
  refine mv_aload_n (pc := 0) B d_Loom_init_0 rfl 0 rfl ?_
  refine mv_obj (pc := 1) B (B.2.2.2.1 _ k_42) (B.2.2.2.1 _ k_43) (B.2.2.2.1 _ k_44) d_Loom_init_1 (Nat.le_of_ble_eq_true rfl) ⟨by decide, by decide⟩ ?_
  refine mv_aload_n (pc := 4) B d_Loom_init_4 rfl 0 rfl ?_
  refine mv_ldc (pc := 5) (v := 32768) B (B.2.2.2.1 _ k_45) d_Loom_init_5 ?_
  refine mq_newa (pc := 7) (ty := .byte) (N := 32768) (n2 := 2) B rfl (by decide) rfl hok (B.2.2.2.1 _ k_86) rfl (Or.inr (Or.inr (Or.inl rfl))) (by decide) (by decide) (by decide) (Nat.le_of_ble_eq_true rfl) (Nat.le_of_ble_eq_true rfl) d_Loom_init_7 (fun al1 g1 B => ?_)
  have hok := hok.nw
  have hNs := mq_K (mKt_ok sk sv) g1 (by decide) (mw_le (by decide)) hNs
  have hg := hg.tr g1 (by decide)
  rw [← g1.1 0 (by decide)]
  refine mv_putRF (pc := 9) (ci := 0) (C := R_Loom) (T := F_Loom) (N := 10) (o := 0) (r := 1) B 0 rfl rfl (by decide) i_Loom t_Loom_ok n_Loom (B.2.2.2.1 _ k_486) rfl hnm rfl rfl d_Loom_init_9 ?_
  have hok := hok.sr (o := 0) (k := 0) (r := 1) (by decide)
  refine mv_aload_n (pc := 12) B d_Loom_init_12 rfl 0 rfl ?_
  refine mv_iconst (pc := 13) (v := -1) B d_Loom_init_13 (by decide) ?_
  refine mv_putI (pc := 14) (ci := 0) (C := R_Loom) (T := F_Loom) (N := 10) (o := 0) B 3 rfl rfl (by decide) i_Loom t_Loom_ok n_Loom (B.2.2.2.1 _ k_489) rfl rfl rfl rfl d_Loom_init_14 ?_
  have hok := mv_ok.r (σ := (mv_sr (mv_nw σ 1) 0 0 (some 1))) (τ := (mv_si (mv_sr (mv_nw σ 1) 0 0 (some 1)) 0 3 (-1))) hok rfl
  refine mv_aload_n (pc := 17) B d_Loom_init_17 rfl 0 rfl ?_
  refine mv_iconst (pc := 18) (v := -1) B d_Loom_init_18 (by decide) ?_
  refine mv_putI (pc := 19) (ci := 0) (C := R_Loom) (T := F_Loom) (N := 10) (o := 0) B 4 rfl rfl (by decide) i_Loom t_Loom_ok n_Loom (B.2.2.2.1 _ k_490) rfl rfl rfl rfl d_Loom_init_19 ?_
  have hok := mv_ok.r (σ := (mv_si (mv_sr (mv_nw σ 1) 0 0 (some 1)) 0 3 (-1))) (τ := (mv_si (mv_si (mv_sr (mv_nw σ 1) 0 0 (some 1)) 0 3 (-1)) 0 4 (-1))) hok rfl
  refine mv_aload_n (pc := 22) B d_Loom_init_22 rfl 0 rfl ?_
  refine mq_new (pc := 23) (ci := 1) (C := R_Weaver) (T := F_Weaver) (N := 16) (n2 := 3) B rfl (by decide) rfl hok rfl i_Weaver t_Weaver_ok (by decide) (B.2.2.2.1 _ k_46) (B.2.2.2.1 _ k_47) (B.2.2.2.1 _ k_2) (Nat.le_of_ble_eq_true rfl) (Nat.le_of_ble_eq_true rfl) d_Loom_init_23 (fun al2 g2 B => ?_)
  have hok := hok.nw
  have hNs := mq_K (mKt_ok sk sv) g2 (by decide) (mw_le (by decide)) hNs
  have hg := hg.tr g2 (by decide)
  rw [← g2.1 0 (by decide)]
  refine mv_dup (pc := 26) B d_Loom_init_26 rfl ?_
  refine mq_callIN (pc := 27) (na := 0) B (mKt_ok sk sv) hNs (by decide) (by decide) (nc_Weaver l B.2.2.2.2.2.1 hlt _ hok) rfl (ma_goodc kc_Weaver_init) (va_Nw.use rfl (hNs.1.1 _ (List.mem_of_getElem? (i := 0) rfl))) (B.2.2.2.1 _ k_49) (B.2.2.2.1 _ k_2) ⟨rfl, ⟨by decide +kernel, by decide +kernel⟩, by decide +kernel⟩ rfl d_Loom_init_27 rfl (Nat.le_of_ble_eq_true rfl) ⟨by decide, by decide⟩ ⟨Nat.le_of_ble_eq_true rfl, Nat.le_of_ble_eq_true rfl⟩ (fun v9 al3 σ3 g3 B h9 => ?_)
  obtain ⟨rfl, rfl⟩ := h9
  have hok := ok_Weaver hok
  have hNs := mq_K (mKt_ok sk sv) g3 (by decide) (mw_le (by decide)) hNs
  have hg := hg.tr g3 (by decide)
  rw [← g3.1 0 (by decide)]
  rw [← g3.1 2 (by decide)]
  refine mv_putRF (pc := 30) (ci := 0) (C := R_Loom) (T := F_Loom) (N := 10) (o := 0) (r := 2) B 5 rfl rfl (by decide) i_Loom t_Loom_ok n_Loom (B.2.2.2.1 _ k_491) rfl hnm rfl rfl d_Loom_init_30 ?_
  have hok := hok.sr (o := 0) (k := 5) (r := 2) (by decide)
  refine mv_aload_n (pc := 33) B d_Loom_init_33 rfl 0 rfl ?_
  refine mq_new (pc := 34) (ci := 7) (C := R_Program) (T := F_Program) (N := 19) (n2 := 33) B rfl (by decide) rfl hok rfl i_Program t_Program_ok (by decide) (B.2.2.2.1 _ k_279) (B.2.2.2.1 _ k_280) (B.2.2.2.1 _ k_8) (Nat.le_of_ble_eq_true rfl) (Nat.le_of_ble_eq_true rfl) d_Loom_init_34 (fun al4 g4 B => ?_)
  have hok := hok.nw
  have hNs := mq_K (mKt_ok sk sv) g4 (by decide) (mw_le (by decide)) hNs
  have hg := hg.tr g4 (by decide)
  rw [← g4.1 0 (by decide)]
  refine mv_dup (pc := 37) B d_Loom_init_37 rfl ?_
  refine mv_ldc (pc := 38) (v := 32768) B (B.2.2.2.1 _ k_45) d_Loom_init_38 ?_
  refine mv_sipush (pc := 40) (v := 512) B d_Loom_init_40 (by decide) ?_
  refine mq_callI (pc := 43) (na := 2) B (mKt_ok sk sv) hNs (by decide) (by decide) (nc_Program_a l B.2.2.2.2.2.1 hlt _ hok) rfl (ma_goodc kc_Program_init) (B.2.2.2.1 _ k_281) (B.2.2.2.1 _ k_282) (B.2.2.2.1 _ k_8) ⟨rfl, ⟨by decide +kernel, by decide +kernel⟩, by decide +kernel⟩ rfl d_Loom_init_43 rfl (Nat.le_of_ble_eq_true rfl) ⟨by decide, by decide⟩ ⟨Nat.le_of_ble_eq_true rfl, Nat.le_of_ble_eq_true rfl⟩ (fun v9 al5 σ5 g5 B h9 => ?_)
  obtain ⟨rfl, rfl⟩ := h9
  have hok := ok_Program_a hok
  have hNs := mq_K (mKt_ok sk sv) g5 (by decide) (mw_le (by decide)) hNs
  have hg := hg.tr g5 (by decide)
  rw [← g5.1 0 (by decide)]
  rw [← g5.1 32 (by decide)]
  refine mv_putRF (pc := 46) (ci := 0) (C := R_Loom) (T := F_Loom) (N := 10) (o := 0) (r := 32) B 6 rfl rfl (by decide) i_Loom t_Loom_ok n_Loom (B.2.2.2.1 _ k_492) rfl hnm rfl rfl d_Loom_init_46 ?_
  have hok := hok.sr (o := 0) (k := 6) (r := 32) (by decide)
  refine mv_aload_n (pc := 49) B d_Loom_init_49 rfl 0 rfl ?_
  refine mq_new (pc := 50) (ci := 7) (C := R_Program) (T := F_Program) (N := 19) (n2 := 49) B rfl (by decide) rfl hok rfl i_Program t_Program_ok (by decide) (B.2.2.2.1 _ k_279) (B.2.2.2.1 _ k_280) (B.2.2.2.1 _ k_8) (Nat.le_of_ble_eq_true rfl) (Nat.le_of_ble_eq_true rfl) d_Loom_init_50 (fun al6 g6 B => ?_)
  have hok := hok.nw
  have hNs := mq_K (mKt_ok sk sv) g6 (by decide) (mw_le (by decide)) hNs
  have hg := hg.tr g6 (by decide)
  rw [← g6.1 0 (by decide)]
  refine mv_dup (pc := 53) B d_Loom_init_53 rfl ?_
  refine mv_ldc (pc := 54) (v := 32768) B (B.2.2.2.1 _ k_45) d_Loom_init_54 ?_
  refine mv_sipush (pc := 56) (v := 512) B d_Loom_init_56 (by decide) ?_
  refine mq_callI (pc := 59) (na := 2) B (mKt_ok sk sv) hNs (by decide) (by decide) (nc_Program_b l B.2.2.2.2.2.1 hlt _ hok) rfl (ma_goodc kc_Program_init) (B.2.2.2.1 _ k_281) (B.2.2.2.1 _ k_282) (B.2.2.2.1 _ k_8) ⟨rfl, ⟨by decide +kernel, by decide +kernel⟩, by decide +kernel⟩ rfl d_Loom_init_59 rfl (Nat.le_of_ble_eq_true rfl) ⟨by decide, by decide⟩ ⟨Nat.le_of_ble_eq_true rfl, Nat.le_of_ble_eq_true rfl⟩ (fun v9 al7 σ7 g7 B h9 => ?_)
  obtain ⟨rfl, rfl⟩ := h9
  have hok := ok_Program_b hok
  have hNs := mq_K (mKt_ok sk sv) g7 (by decide) (mw_le (by decide)) hNs
  have hg := hg.tr g7 (by decide)
  rw [← g7.1 0 (by decide)]
  rw [← g7.1 48 (by decide)]
  refine mv_putRF (pc := 62) (ci := 0) (C := R_Loom) (T := F_Loom) (N := 10) (o := 0) (r := 48) B 7 rfl rfl (by decide) i_Loom t_Loom_ok n_Loom (B.2.2.2.1 _ k_493) rfl hnm rfl rfl d_Loom_init_62 ?_
  have hok := hok.sr (o := 0) (k := 7) (r := 48) (by decide)
  refine mv_aload_n (pc := 65) B d_Loom_init_65 rfl 0 rfl ?_
  refine mv_getR (pc := 66) (ci := 0) (C := R_Loom) (T := F_Loom) (N := 10) (o := 0) (r := 32) B 6 rfl rfl (by decide) i_Loom (B.2.2.2.1 _ k_492) rfl rfl d_Loom_init_66 ?_
  refine mv_callVG (pc := 69) (na := 0) (ci := 7) (C := R_Program) (o := 32) B (mK_ok sk sv) hNs.1 rfl rfl (c_Program_clear_k l B.2.2.2.2.2.1 _) rfl (ma_goodc kc_Program_clear) (B.2.2.2.1 _ k_406) (B.2.2.2.1 _ k_407) (B.2.2.2.1 _ k_408) (B.2.2.2.1 _ k_8) ⟨by decide +kernel, by decide +kernel, by decide +kernel⟩ rfl d_Loom_init_69 rfl (Nat.le_of_ble_eq_true rfl) ⟨by decide, by decide⟩ ⟨Nat.le_of_ble_eq_true rfl, Nat.le_of_ble_eq_true rfl⟩ (fun x9 τ9 h9 => by cases h9.1) (fun v9 τ9 h9 => ?_)
  obtain ⟨h8, rfl⟩ := h9
  cases h8
  have hok := mv_ok.r (σ := (mv_sr (sg_Program_b (mv_nw (mv_sr (sg_Program_a (mv_nw (mv_sr (sg_Weaver (mv_nw (mv_si (mv_si (mv_sr (mv_nw σ 1) 0 0 (some 1)) 0 3 (-1)) 0 4 (-1)) 2)) 0 5 (some 2)) 32)) 0 6 (some 32)) 48)) 0 7 (some 48))) (τ := (pr_clear 32 (mv_sr (sg_Program_b (mv_nw (mv_sr (sg_Program_a (mv_nw (mv_sr (sg_Weaver (mv_nw (mv_si (mv_si (mv_sr (mv_nw σ 1) 0 0 (some 1)) 0 3 (-1)) 0 4 (-1)) 2)) 0 5 (some 2)) 32)) 0 6 (some 32)) 48)) 0 7 (some 48)))) hok rfl
  refine mv_aload_n (pc := 72) B d_Loom_init_72 rfl 0 rfl ?_
  refine mv_getR (pc := 73) (ci := 0) (C := R_Loom) (T := F_Loom) (N := 10) (o := 0) (r := 32) B 6 rfl rfl (by decide) i_Loom (B.2.2.2.1 _ k_492) rfl rfl d_Loom_init_73 ?_
  refine mv_getR (pc := 76) (ci := 7) (C := R_Program) (T := F_Program) (N := 19) (o := 32) (r := 43) B 18 rfl rfl (by decide) i_Program (B.2.2.2.1 _ k_363) rfl rfl d_Loom_init_76 ?_
  refine mv_aload_n (pc := 79) B d_Loom_init_79 rfl 0 rfl ?_
  refine mv_getR (pc := 80) (ci := 0) (C := R_Loom) (T := F_Loom) (N := 10) (o := 0) (r := 32) B 6 rfl rfl (by decide) i_Loom (B.2.2.2.1 _ k_492) rfl rfl d_Loom_init_80 ?_
  refine mv_callVG (pc := 83) (na := 1) (ci := 8) (C := R_Tree) (o := 43) B (mK_ok sk sv) hNs.1 rfl rfl (c_Tree_grow_k l B.2.2.2.2.2.1 _ 0 (lm_ph σ) rfl (by decide)) rfl (ma_goodc kc_Tree_grow) (B.2.2.2.1 _ k_410) (B.2.2.2.1 _ k_411) (B.2.2.2.1 _ k_412) (B.2.2.2.1 _ k_9) ⟨by decide +kernel, by decide +kernel, by decide +kernel⟩ rfl d_Loom_init_83 rfl (Nat.le_of_ble_eq_true rfl) ⟨by decide, by decide⟩ ⟨Nat.le_of_ble_eq_true rfl, Nat.le_of_ble_eq_true rfl⟩ (fun x9 τ9 h9 => by cases h9.1) (fun v9 υ9 h9 => ?_)
  obtain ⟨h8, hTr, hTk⟩ := h9
  cases h8
  have hok := mv_ok.r hok hTr.2.2.2.2
  refine mv_aload_n (pc := 86) B d_Loom_init_86 rfl 0 rfl ?_
  refine mq_new (pc := 87) (ci := 9) (C := R_Machine) (T := F_Machine) (N := 13) (n2 := 65) B rfl (by decide) rfl hok rfl i_Machine t_Machine_ok (by decide) (B.2.2.2.1 _ k_433) (B.2.2.2.1 _ k_434) (B.2.2.2.1 _ k_11) (Nat.le_of_ble_eq_true rfl) (Nat.le_of_ble_eq_true rfl) d_Loom_init_87 (fun al8 g8 B => ?_)
  have hok := hok.nw
  have hNs := mq_K (mKt_ok sk sv) g8 (by decide) (mw_le (by decide)) hNs
  have hg := hg.tr g8 (by decide)
  rw [← g8.1 0 (by decide)]
  refine mv_dup (pc := 90) B d_Loom_init_90 rfl ?_
  refine mv_aload_n (pc := 91) B d_Loom_init_91 rfl 0 rfl ?_
  refine mv_getR (pc := 92) (ci := 0) (C := R_Loom) (T := F_Loom) (N := 10) (o := 0) (r := 32) B 6 rfl rfl (by decide) i_Loom (B.2.2.2.1 _ k_492) rfl (by show (if 0 = 64 then none else mv_r υ9 0 6) = _; rw [if_neg (by decide), hTr.2.2.2.2]; rfl) d_Loom_init_92 ?_
  refine mq_callI (pc := 95) (na := 1) B (mKt_ok sk sv) hNs (by decide) (by decide) (nc_Machine l B.2.2.2.2.2.1 hlt _ hok) rfl (ma_goodc kc_Machine_init) (B.2.2.2.1 _ k_435) (B.2.2.2.1 _ k_436) (B.2.2.2.1 _ k_11) ⟨rfl, ⟨by decide +kernel, by decide +kernel⟩, by decide +kernel⟩ rfl d_Loom_init_95 rfl (Nat.le_of_ble_eq_true rfl) ⟨by decide, by decide⟩ ⟨Nat.le_of_ble_eq_true rfl, Nat.le_of_ble_eq_true rfl⟩ (fun v9 al9 σ9 g9 B h9 => ?_)
  obtain ⟨rfl, rfl⟩ := h9
  have hok := ok_Machine hok
  have hNs := mq_K (mKt_ok sk sv) g9 (by decide) (mw_le (by decide)) hNs
  have hg := hg.tr g9 (by decide)
  rw [← g9.1 0 (by decide)]
  rw [← g9.1 64 (by decide)]
  refine mv_putRF (pc := 98) (ci := 0) (C := R_Loom) (T := F_Loom) (N := 10) (o := 0) (r := 64) B 9 rfl rfl (by decide) i_Loom t_Loom_ok n_Loom (B.2.2.2.1 _ k_495) rfl hnm rfl rfl d_Loom_init_98 ?_
  have hok := hok.sr (o := 0) (k := 9) (r := 64) (by decide)
  exact mq_vret (pc := 101) B hr d_Loom_init_101 (Nat.le_of_ble_eq_true rfl) (Nat.le_of_ble_eq_true rfl) hg ⟨rfl, υ9, hTr, hTk, rfl, hok⟩
